theorem tX2_isFull {L : Int32} {M : gM} {a1 : Int32} {μ : gM}  (h : J L M μ) (g0 : a1.toInt = 11 ∨ a1.toInt = 7 ∨ (0 ≤ a1.toInt ∧ a1.toInt ≤ 2)) : zH (fX2_isFull a1 μ) (fun v => (v.toInt = 0 ∨ v.toInt = 1) ∧ (v.toInt = 0 → (a1.toInt = 11 → (μ 18 10).toInt < 24) ∧ (a1.toInt = 2 → (μ 19 2).toInt < 5) ∧ (a1.toInt ≤ 2 → (μ 19 a1.toNatClampNeg).toInt < 8 ∧ (a1.toInt = 0 → (μ 19 a1.toNatClampNeg).toInt < 6) ∧ (a1.toInt = 2 → (μ 19 a1.toNatClampNeg).toInt < 5)))) := by
  unfold fX2_isFull
  refine zH_eqc (rfl : a1.toInt = _) (iL (11) (11) rfl) (fun c_1e c_1 => ?_) (fun c_1e c_1 => ?_)
  · have f_3 : (0 : Int) ≤ (μ 18 10).toInt ∧ (μ 18 10).toInt ≤ 24 := h.rd (a := 18) rfl (by decide) 10
    refine zH_ltc (rfl : (μ 18 10).toInt = _) (iL (24) (24) rfl) (fun c_2 => ?_) (fun c_2 => ?_)
    · have q_4 : (0 : Int32).toInt = (0 : Int) := (iL (0) (0) rfl)
      exact zH_some (show ((0 : Int32).toInt = 0 ∨ (0 : Int32).toInt = 1) ∧ ((0 : Int32).toInt = 0 → (a1.toInt = 11 → (μ 18 10).toInt < 24) ∧ (a1.toInt = 2 → (μ 19 2).toInt < 5) ∧ (a1.toInt ≤ 2 → (μ 19 a1.toNatClampNeg).toInt < 8 ∧ (a1.toInt = 0 → (μ 19 a1.toNatClampNeg).toInt < 6) ∧ (a1.toInt = 2 → (μ 19 a1.toNatClampNeg).toInt < 5))) from by have q_5 : (0 : Int32).toInt = (0 : Int) := (iL (0) (0) rfl); omega)
    · have q_6 : (1 : Int32).toInt = (1 : Int) := (iL (1) (1) rfl)
      exact zH_some (show ((1 : Int32).toInt = 0 ∨ (1 : Int32).toInt = 1) ∧ ((1 : Int32).toInt = 0 → (a1.toInt = 11 → (μ 18 10).toInt < 24) ∧ (a1.toInt = 2 → (μ 19 2).toInt < 5) ∧ (a1.toInt ≤ 2 → (μ 19 a1.toNatClampNeg).toInt < 8 ∧ (a1.toInt = 0 → (μ 19 a1.toNatClampNeg).toInt < 6) ∧ (a1.toInt = 2 → (μ 19 a1.toNatClampNeg).toInt < 5))) from by have q_7 : (1 : Int32).toInt = (1 : Int) := (iL (1) (1) rfl); omega)
  · refine zH_eqc (rfl : a1.toInt = _) (iL (7) (7) rfl) (fun c_8e c_8 => ?_) (fun c_8e c_8 => ?_)
    · have q_9 : (0 : Int32).toInt = (0 : Int) := (iL (0) (0) rfl)
      exact zH_some (show ((0 : Int32).toInt = 0 ∨ (0 : Int32).toInt = 1) ∧ ((0 : Int32).toInt = 0 → (a1.toInt = 11 → (μ 18 10).toInt < 24) ∧ (a1.toInt = 2 → (μ 19 2).toInt < 5) ∧ (a1.toInt ≤ 2 → (μ 19 a1.toNatClampNeg).toInt < 8 ∧ (a1.toInt = 0 → (μ 19 a1.toNatClampNeg).toInt < 6) ∧ (a1.toInt = 2 → (μ 19 a1.toNatClampNeg).toInt < 5))) from by have q_10 : (0 : Int32).toInt = (0 : Int) := (iL (0) (0) rfl); omega)
    · refine zH_ck (zIn (rfl : a1.toInt = _) (by omega) (by omega)) ?_
      have nz : a1.toInt = 2 → (μ 19 a1.toNatClampNeg).toInt = (μ 19 2).toInt := fun e => by rw [show a1.toNatClampNeg = 2 from by show a1.toInt.toNat = 2; omega]
      refine zH_bd (tX1_room) (fun x_11 p_12 => ?_)
      have q_13 : (a1.toInt = 0 → x_11.toInt = 6) ∧ (a1.toInt = 1 → x_11.toInt = 8) ∧ (a1.toInt = 2 → x_11.toInt = 5) := p_12
      refine zH_ltc (rfl : (μ 19 (a1).toNatClampNeg).toInt = _) (rfl : x_11.toInt = _) (fun c_14 => ?_) (fun c_14 => ?_)
      · have q_15 : (0 : Int32).toInt = (0 : Int) := (iL (0) (0) rfl)
        exact zH_some (show ((0 : Int32).toInt = 0 ∨ (0 : Int32).toInt = 1) ∧ ((0 : Int32).toInt = 0 → (a1.toInt = 11 → (μ 18 10).toInt < 24) ∧ (a1.toInt = 2 → (μ 19 2).toInt < 5) ∧ (a1.toInt ≤ 2 → (μ 19 a1.toNatClampNeg).toInt < 8 ∧ (a1.toInt = 0 → (μ 19 a1.toNatClampNeg).toInt < 6) ∧ (a1.toInt = 2 → (μ 19 a1.toNatClampNeg).toInt < 5))) from by have q_16 : (0 : Int32).toInt = (0 : Int) := (iL (0) (0) rfl); omega)
      · have q_17 : (1 : Int32).toInt = (1 : Int) := (iL (1) (1) rfl)
        exact zH_some (show ((1 : Int32).toInt = 0 ∨ (1 : Int32).toInt = 1) ∧ ((1 : Int32).toInt = 0 → (a1.toInt = 11 → (μ 18 10).toInt < 24) ∧ (a1.toInt = 2 → (μ 19 2).toInt < 5) ∧ (a1.toInt ≤ 2 → (μ 19 a1.toNatClampNeg).toInt < 8 ∧ (a1.toInt = 0 → (μ 19 a1.toNatClampNeg).toInt < 6) ∧ (a1.toInt = 2 → (μ 19 a1.toNatClampNeg).toInt < 5))) from by have q_18 : (1 : Int32).toInt = (1 : Int) := (iL (1) (1) rfl); omega)
theorem tX2_readName {L : Int32} {M : gM} {a1 : Int32} {μ : gM}  (h : J L M μ) (g0 : 0 ≤ a1.toInt) (g1 : a1.toInt ≤ 2) (g2 : (μ 19 a1.toNatClampNeg).toInt < 8) (g3 : a1.toInt = 0 → (μ 19 a1.toNatClampNeg).toInt < 6) (g4 : a1.toInt = 2 → (μ 19 a1.toNatClampNeg).toInt < 5) : zH (fX2_readName a1 μ) (fun r => J L M r.2 ∧ (r.1.toInt = 0 ∨ r.1.toInt = 1)) := by
  unfold fX2_readName
  have nc : 0 ≤ (μ 19 a1.toNatClampNeg).toInt ∧ (μ 19 a1.toNatClampNeg).toInt ≤ 8 ∧ (a1.toInt = 0 → (μ 19 a1.toNatClampNeg).toInt ≤ 6) ∧ (a1.toInt = 2 → (μ 19 a1.toNatClampNeg).toInt ≤ 5) := h.nb18.c (a := a1) (by omega) (by omega)
  refine zH_bd (tX7_isName) (fun x_1 p_2 => ?_)
  have q_3 : x_1.toInt = 0 ∨ x_1.toInt = 1 := p_2
  refine zH_eqc (rfl : x_1.toInt = _) (iL (0) (0) rfl) (fun c_4e c_4 => ?_) (fun c_4e c_4 => ?_)
  · have q_5 : (1 : Int32).toInt = (1 : Int) := (iL (1) (1) rfl)
    refine zH_bp (tX7_refuse h.hl h.jl) (fun x_6 μ_7 p_8 => ?_)
    have h_9 : J L M μ_7 := h.lex p_8.1
    have q_10 : x_6.toInt = 0 := p_8.2
    refine zH_ck (zBo (show (x_6).toInt = 0 ∨ (x_6).toInt = 1 from by have q_11 : (x_6).toInt = x_6.toInt := (rfl : x_6.toInt = _); omega)) ?_
    exact zH_some ⟨h_9, show x_6.toInt = 0 ∨ x_6.toInt = 1 from by have q_12 : (x_6).toInt = x_6.toInt := (rfl : x_6.toInt = _); omega⟩
  · refine zH_bd (tX1_isTold h.nb18) (fun x_13 p_14 => ?_)
    have q_15 : x_13.toInt = 0 ∨ x_13.toInt = 1 := p_14
    refine zH_eqc (rfl : x_13.toInt = _) (iL (0) (0) rfl) (fun c_16e c_16 => ?_) (fun c_16e c_16 => ?_)
    · refine zH_ck (zIn (rfl : a1.toInt = _) (by omega) (by omega)) ?_
      refine zH_lt (fun x_17 e_18 => ?_)
      have q_19 : x_17.toInt = (μ 19 (a1).toNatClampNeg).toInt := (congrArg Int32.toInt e_18).trans (rfl : (μ 19 (a1).toNatClampNeg).toInt = _)
      refine zH_ck (zIn (iA (iM (rfl : a1.toInt = _) (iL (8) (8) rfl) (by omega) (by omega)) (rfl : x_17.toInt = _) (by omega) (by omega)) (by omega) (by omega)) ?_
      refine zH_lt (fun μ_20 e_21 => ?_)
      have h_22 : J L M μ_20 := by rw [e_21]; exact J.upf h (a := 20) (k := (1, 24)) rfl (by decide) (by decide) (by decide) (Or.inl (by decide)) rfl
      refine zH_ck (zIn (rfl : a1.toInt = _) (by omega) (by omega)) ?_
      have q_26 : (x_17 + (1 : Int32)).toInt = (x_17.toInt + (1 : Int)) := (iA (rfl : x_17.toInt = _) (iL (1) (1) rfl) (by omega) (by omega))
      refine zH_lt (fun μ_23 e_24 => ?_)
      have h_25 : J L M μ_23 := by rw [e_24]; exact J.upc h_22 (a := 19) rfl (by decide) (by decide) (e := a1) (by omega) (by omega) (show 0 ≤ (x_17 + (1 : Int32)).toInt ∧ (a1.toInt = 0 → (x_17 + (1 : Int32)).toInt ≤ 6) ∧ (a1.toInt = 1 → (x_17 + (1 : Int32)).toInt ≤ 8) ∧ (a1.toInt = 2 → (x_17 + (1 : Int32)).toInt ≤ 5) from by have q_27 : (x_17 + (1 : Int32)).toInt = (x_17.toInt + (1 : Int)) := (iA (rfl : x_17.toInt = _) (iL (1) (1) rfl) (by omega) (by omega)); omega)
      refine zH_bd (tX7_advance h_25.hl h_25.jl) (fun μ_28 p_29 => ?_)
      have h_30 : J L M μ_28 := h_25.lex p_29
      have q_31 : (1 : Int32).toInt = (1 : Int) := (iL (1) (1) rfl)
      exact zH_some ⟨h_30, show (1 : Int32).toInt = 0 ∨ (1 : Int32).toInt = 1 from by have q_32 : ((1 : Int32)).toInt = (1 : Int) := (iL (1) (1) rfl); omega⟩
    · have q_33 : (2 : Int32).toInt = (2 : Int) := (iL (2) (2) rfl)
      refine zH_bp (tX7_refuse h.hl h.jl) (fun x_34 μ_35 p_36 => ?_)
      have h_37 : J L M μ_35 := h.lex p_36.1
      have q_38 : x_34.toInt = 0 := p_36.2
      refine zH_ck (zBo (show (x_34).toInt = 0 ∨ (x_34).toInt = 1 from by have q_39 : (x_34).toInt = x_34.toInt := (rfl : x_34.toInt = _); omega)) ?_
      exact zH_some ⟨h_37, show x_34.toInt = 0 ∨ x_34.toInt = 1 from by have q_40 : (x_34).toInt = x_34.toInt := (rfl : x_34.toInt = _); omega⟩
theorem tX2_readGroup {L : Int32} {M : gM} {μ : gM}  (h : J L M μ) (g0 : (μ 19 2).toInt < 5) : zH (fX2_readGroup μ) (fun r => J L M r.2 ∧ (r.1.toInt = 0 ∨ r.1.toInt = 1)) := by
  unfold fX2_readGroup
  have w2 : (2 : Int32).toInt = 2 := rfl
  have w3 : (μ 19 (2 : Int32).toNatClampNeg).toInt = (μ 19 2).toInt := rfl
  have f_3 : (0 : Int) ≤ (μ 19 2).toInt ∧ (μ 19 2).toInt ≤ 5 := h.rd (a := 19) rfl (by decide) 2
  refine zH_lt (fun x_1 e_2 => ?_)
  have q_4 : x_1.toInt = (μ 19 2).toInt := (congrArg Int32.toInt e_2).trans (rfl : (μ 19 2).toInt = _)
  have q_5 : (2 : Int32).toInt = (2 : Int) := (iL (2) (2) rfl)
  refine zH_bp (tX2_readName h (by omega) (by omega) (by omega) (by omega) (by omega)) (fun x_6 μ_7 p_8 => ?_)
  have h_9 : J L M μ_7 := p_8.1
  have q_10 : x_6.toInt = 0 ∨ x_6.toInt = 1 := p_8.2
  refine zH_eqc (rfl : x_6.toInt = _) (iL (0) (0) rfl) (fun c_11e c_11 => ?_) (fun c_11e c_11 => ?_)
  · have q_12 : (0 : Int32).toInt = (0 : Int) := (iL (0) (0) rfl)
    exact zH_some ⟨h_9, show (0 : Int32).toInt = 0 ∨ (0 : Int32).toInt = 1 from by have q_13 : ((0 : Int32)).toInt = (0 : Int) := (iL (0) (0) rfl); omega⟩
  · have q_14 : (3 : Int32).toInt = (3 : Int) := (iL (3) (3) rfl)
    refine zH_bp (tX7_pass h_9.hl h_9.jl) (fun x_15 μ_16 p_17 => ?_)
    have h_18 : J L M μ_16 := h_9.lex p_17.1
    have q_19 : x_15.toInt = 0 ∨ x_15.toInt = 1 := p_17.2
    refine zH_eqc (rfl : x_15.toInt = _) (iL (0) (0) rfl) (fun c_20e c_20 => ?_) (fun c_20e c_20 => ?_)
    · have q_21 : (0 : Int32).toInt = (0 : Int) := (iL (0) (0) rfl)
      exact zH_some ⟨h_18, show (0 : Int32).toInt = 0 ∨ (0 : Int32).toInt = 1 from by have q_22 : ((0 : Int32)).toInt = (0 : Int) := (iL (0) (0) rfl); omega⟩
    · have q_23 : (1 : Int32).toInt = (1 : Int) := (iL (1) (1) rfl)
      have q_24 : (40 : Int32).toInt = (40 : Int) := (iL (40) (40) rfl)
      refine zH_bp (tX7_number h_18.hl h_18.jl) (fun x_25 μ_26 p_27 => ?_)
      have h_28 : J L M μ_26 := h_18.lex p_27.1
      have q_29 : x_25.toInt = -1 ∨ ((1 : Int32).toInt ≤ x_25.toInt ∧ x_25.toInt ≤ (40 : Int32).toInt) := p_27.2
      refine zH_eqc (rfl : x_25.toInt = _) (iL (-1) (-1) rfl) (fun c_30e c_30 => ?_) (fun c_30e c_30 => ?_)
      · unfold fX2_readGroup_n77
        have w2 : (2 : Int32).toInt = 2 := rfl
        have w3 : (μ 19 (2 : Int32).toNatClampNeg).toInt = (μ 19 2).toInt := rfl
        refine zH_eqc (rfl : x_25.toInt = _) (iL (-1) (-1) rfl) (fun c_31e c_31 => ?_) (fun c_31e c_31 => ?_)
        · unfold fX2_readGroup_n96
          have w2 : (2 : Int32).toInt = 2 := rfl
          have w3 : (μ 19 (2 : Int32).toNatClampNeg).toInt = (μ 19 2).toInt := rfl
          refine zH_eqc (rfl : x_25.toInt = _) (iL (-1) (-1) rfl) (fun c_32e c_32 => ?_) (fun c_32e c_32 => ?_)
          · have q_33 : (0 : Int32).toInt = (0 : Int) := (iL (0) (0) rfl)
            exact zH_some ⟨h_28, show (0 : Int32).toInt = 0 ∨ (0 : Int32).toInt = 1 from by have q_34 : ((0 : Int32)).toInt = (0 : Int) := (iL (0) (0) rfl); omega⟩
          · refine zH_eqc (iL (0) (0) rfl) (iL (-1) (-1) rfl) (fun c_35e c_35 => ?_) (fun c_35e c_35 => ?_)
            · have q_36 : (0 : Int32).toInt = (0 : Int) := (iL (0) (0) rfl)
              exact zH_some ⟨h_28, show (0 : Int32).toInt = 0 ∨ (0 : Int32).toInt = 1 from by have q_37 : ((0 : Int32)).toInt = (0 : Int) := (iL (0) (0) rfl); omega⟩
            · have q_38 : (6 : Int32).toInt = (6 : Int) := (iL (6) (6) rfl)
              refine zH_bp (tX7_passIfThere h_28.hl h_28.jl) (fun x_39 μ_40 p_41 => ?_)
              have h_42 : J L M μ_40 := h_28.lex p_41.1
              have q_43 : x_39.toInt = 0 ∨ x_39.toInt = 1 := p_41.2
              refine zH_eqc (rfl : x_39.toInt = _) (iL (0) (0) rfl) (fun c_44e c_44 => ?_) (fun c_44e c_44 => ?_)
              · unfold fX2_readGroup_n134
                have w2 : (2 : Int32).toInt = 2 := rfl
                have w3 : (μ 19 (2 : Int32).toNatClampNeg).toInt = (μ 19 2).toInt := rfl
                refine zH_ck (zIn (rfl : x_1.toInt = _) (by omega) (by omega)) ?_
                refine zH_lt (fun μ_45 e_46 => ?_)
                have h_47 : J L M μ_45 := by rw [e_46]; exact J.upf h_42 (a := 21) (k := (1, 5)) rfl (by decide) (by decide) (by decide) (Or.inl (by decide)) rfl
                refine zH_ck (zIn (rfl : x_1.toInt = _) (by omega) (by omega)) ?_
                refine zH_lt (fun μ_48 e_49 => ?_)
                have h_50 : J L M μ_48 := by rw [e_49]; exact J.upf h_47 (a := 22) (k := (1, 5)) rfl (by decide) (by decide) (by decide) (Or.inl (by decide)) rfl
                refine zH_ck (zIn (rfl : x_1.toInt = _) (by omega) (by omega)) ?_
                refine zH_lt (fun μ_51 e_52 => ?_)
                have h_53 : J L M μ_51 := by rw [e_52]; exact J.upf h_50 (a := 23) (k := (1, 5)) rfl (by decide) (by decide) (by decide) (Or.inl (by decide)) rfl
                refine zH_ck (zIn (rfl : x_1.toInt = _) (by omega) (by omega)) ?_
                refine zH_lt (fun μ_54 e_55 => ?_)
                have h_56 : J L M μ_54 := by rw [e_55]; exact J.upf h_53 (a := 24) (k := (1, 5)) rfl (by decide) (by decide) (by decide) (Or.inl (by decide)) rfl
                refine zH_eqc (iL (1) (1) rfl) (iL (-1) (-1) rfl) (fun c_57e c_57 => ?_) (fun c_57e c_57 => ?_)
                · have q_58 : (0 : Int32).toInt = (0 : Int) := (iL (0) (0) rfl)
                  exact zH_some ⟨h_56, show (0 : Int32).toInt = 0 ∨ (0 : Int32).toInt = 1 from by have q_59 : ((0 : Int32)).toInt = (0 : Int) := (iL (0) (0) rfl); omega⟩
                · exact zH_some ⟨h_56, show (1 : Int32).toInt = 0 ∨ (1 : Int32).toInt = 1 from by have q_60 : ((1 : Int32)).toInt = (1 : Int) := (iL (1) (1) rfl); omega⟩
              · have q_61 : (8 : Int32).toInt = (8 : Int) := (iL (8) (8) rfl)
                refine zH_bp (tX7_number h_42.hl h_42.jl) (fun x_62 μ_63 p_64 => ?_)
                have h_65 : J L M μ_63 := h_42.lex p_64.1
                have q_66 : x_62.toInt = -1 ∨ ((1 : Int32).toInt ≤ x_62.toInt ∧ x_62.toInt ≤ (8 : Int32).toInt) := p_64.2
                unfold fX2_readGroup_n134
                have w2 : (2 : Int32).toInt = 2 := rfl
                have w3 : (μ 19 (2 : Int32).toNatClampNeg).toInt = (μ 19 2).toInt := rfl
                refine zH_ck (zIn (rfl : x_1.toInt = _) (by omega) (by omega)) ?_
                refine zH_lt (fun μ_67 e_68 => ?_)
                have h_69 : J L M μ_67 := by rw [e_68]; exact J.upf h_65 (a := 21) (k := (1, 5)) rfl (by decide) (by decide) (by decide) (Or.inl (by decide)) rfl
                refine zH_ck (zIn (rfl : x_1.toInt = _) (by omega) (by omega)) ?_
                refine zH_lt (fun μ_70 e_71 => ?_)
                have h_72 : J L M μ_70 := by rw [e_71]; exact J.upf h_69 (a := 22) (k := (1, 5)) rfl (by decide) (by decide) (by decide) (Or.inl (by decide)) rfl
                refine zH_ck (zIn (rfl : x_1.toInt = _) (by omega) (by omega)) ?_
                refine zH_lt (fun μ_73 e_74 => ?_)
                have h_75 : J L M μ_73 := by rw [e_74]; exact J.upf h_72 (a := 23) (k := (1, 5)) rfl (by decide) (by decide) (by decide) (Or.inl (by decide)) rfl
                refine zH_ck (zIn (rfl : x_1.toInt = _) (by omega) (by omega)) ?_
                refine zH_lt (fun μ_76 e_77 => ?_)
                have h_78 : J L M μ_76 := by rw [e_77]; exact J.upf h_75 (a := 24) (k := (1, 5)) rfl (by decide) (by decide) (by decide) (Or.inl (by decide)) rfl
                refine zH_eqc (rfl : x_62.toInt = _) (iL (-1) (-1) rfl) (fun c_79e c_79 => ?_) (fun c_79e c_79 => ?_)
                · have q_80 : (0 : Int32).toInt = (0 : Int) := (iL (0) (0) rfl)
                  exact zH_some ⟨h_78, show (0 : Int32).toInt = 0 ∨ (0 : Int32).toInt = 1 from by have q_81 : ((0 : Int32)).toInt = (0 : Int) := (iL (0) (0) rfl); omega⟩
                · exact zH_some ⟨h_78, show (1 : Int32).toInt = 0 ∨ (1 : Int32).toInt = 1 from by have q_82 : ((1 : Int32)).toInt = (1 : Int) := (iL (1) (1) rfl); omega⟩
        · have q_83 : (5 : Int32).toInt = (5 : Int) := (iL (5) (5) rfl)
          refine zH_bp (tX7_passIfThere h_28.hl h_28.jl) (fun x_84 μ_85 p_86 => ?_)
          have h_87 : J L M μ_85 := h_28.lex p_86.1
          have q_88 : x_84.toInt = 0 ∨ x_84.toInt = 1 := p_86.2
          refine zH_eqc (rfl : x_84.toInt = _) (iL (0) (0) rfl) (fun c_89e c_89 => ?_) (fun c_89e c_89 => ?_)
          · unfold fX2_readGroup_n96
            have w2 : (2 : Int32).toInt = 2 := rfl
            have w3 : (μ 19 (2 : Int32).toNatClampNeg).toInt = (μ 19 2).toInt := rfl
            refine zH_eqc (rfl : x_25.toInt = _) (iL (-1) (-1) rfl) (fun c_90e c_90 => ?_) (fun c_90e c_90 => ?_)
            · have q_91 : (0 : Int32).toInt = (0 : Int) := (iL (0) (0) rfl)
              exact zH_some ⟨h_87, show (0 : Int32).toInt = 0 ∨ (0 : Int32).toInt = 1 from by have q_92 : ((0 : Int32)).toInt = (0 : Int) := (iL (0) (0) rfl); omega⟩
            · refine zH_eqc (iL (0) (0) rfl) (iL (-1) (-1) rfl) (fun c_93e c_93 => ?_) (fun c_93e c_93 => ?_)
              · have q_94 : (0 : Int32).toInt = (0 : Int) := (iL (0) (0) rfl)
                exact zH_some ⟨h_87, show (0 : Int32).toInt = 0 ∨ (0 : Int32).toInt = 1 from by have q_95 : ((0 : Int32)).toInt = (0 : Int) := (iL (0) (0) rfl); omega⟩
              · have q_96 : (6 : Int32).toInt = (6 : Int) := (iL (6) (6) rfl)
                refine zH_bp (tX7_passIfThere h_87.hl h_87.jl) (fun x_97 μ_98 p_99 => ?_)
                have h_100 : J L M μ_98 := h_87.lex p_99.1
                have q_101 : x_97.toInt = 0 ∨ x_97.toInt = 1 := p_99.2
                refine zH_eqc (rfl : x_97.toInt = _) (iL (0) (0) rfl) (fun c_102e c_102 => ?_) (fun c_102e c_102 => ?_)
                · unfold fX2_readGroup_n134
                  have w2 : (2 : Int32).toInt = 2 := rfl
                  have w3 : (μ 19 (2 : Int32).toNatClampNeg).toInt = (μ 19 2).toInt := rfl
                  refine zH_ck (zIn (rfl : x_1.toInt = _) (by omega) (by omega)) ?_
                  refine zH_lt (fun μ_103 e_104 => ?_)
                  have h_105 : J L M μ_103 := by rw [e_104]; exact J.upf h_100 (a := 21) (k := (1, 5)) rfl (by decide) (by decide) (by decide) (Or.inl (by decide)) rfl
                  refine zH_ck (zIn (rfl : x_1.toInt = _) (by omega) (by omega)) ?_
                  refine zH_lt (fun μ_106 e_107 => ?_)
                  have h_108 : J L M μ_106 := by rw [e_107]; exact J.upf h_105 (a := 22) (k := (1, 5)) rfl (by decide) (by decide) (by decide) (Or.inl (by decide)) rfl
                  refine zH_ck (zIn (rfl : x_1.toInt = _) (by omega) (by omega)) ?_
                  refine zH_lt (fun μ_109 e_110 => ?_)
                  have h_111 : J L M μ_109 := by rw [e_110]; exact J.upf h_108 (a := 23) (k := (1, 5)) rfl (by decide) (by decide) (by decide) (Or.inl (by decide)) rfl
                  refine zH_ck (zIn (rfl : x_1.toInt = _) (by omega) (by omega)) ?_
                  refine zH_lt (fun μ_112 e_113 => ?_)
                  have h_114 : J L M μ_112 := by rw [e_113]; exact J.upf h_111 (a := 24) (k := (1, 5)) rfl (by decide) (by decide) (by decide) (Or.inl (by decide)) rfl
                  refine zH_eqc (iL (1) (1) rfl) (iL (-1) (-1) rfl) (fun c_115e c_115 => ?_) (fun c_115e c_115 => ?_)
                  · have q_116 : (0 : Int32).toInt = (0 : Int) := (iL (0) (0) rfl)
                    exact zH_some ⟨h_114, show (0 : Int32).toInt = 0 ∨ (0 : Int32).toInt = 1 from by have q_117 : ((0 : Int32)).toInt = (0 : Int) := (iL (0) (0) rfl); omega⟩
                  · exact zH_some ⟨h_114, show (1 : Int32).toInt = 0 ∨ (1 : Int32).toInt = 1 from by have q_118 : ((1 : Int32)).toInt = (1 : Int) := (iL (1) (1) rfl); omega⟩
                · have q_119 : (8 : Int32).toInt = (8 : Int) := (iL (8) (8) rfl)
                  refine zH_bp (tX7_number h_100.hl h_100.jl) (fun x_120 μ_121 p_122 => ?_)
                  have h_123 : J L M μ_121 := h_100.lex p_122.1
                  have q_124 : x_120.toInt = -1 ∨ ((1 : Int32).toInt ≤ x_120.toInt ∧ x_120.toInt ≤ (8 : Int32).toInt) := p_122.2
                  unfold fX2_readGroup_n134
                  have w2 : (2 : Int32).toInt = 2 := rfl
                  have w3 : (μ 19 (2 : Int32).toNatClampNeg).toInt = (μ 19 2).toInt := rfl
                  refine zH_ck (zIn (rfl : x_1.toInt = _) (by omega) (by omega)) ?_
                  refine zH_lt (fun μ_125 e_126 => ?_)
                  have h_127 : J L M μ_125 := by rw [e_126]; exact J.upf h_123 (a := 21) (k := (1, 5)) rfl (by decide) (by decide) (by decide) (Or.inl (by decide)) rfl
                  refine zH_ck (zIn (rfl : x_1.toInt = _) (by omega) (by omega)) ?_
                  refine zH_lt (fun μ_128 e_129 => ?_)
                  have h_130 : J L M μ_128 := by rw [e_129]; exact J.upf h_127 (a := 22) (k := (1, 5)) rfl (by decide) (by decide) (by decide) (Or.inl (by decide)) rfl
                  refine zH_ck (zIn (rfl : x_1.toInt = _) (by omega) (by omega)) ?_
                  refine zH_lt (fun μ_131 e_132 => ?_)
                  have h_133 : J L M μ_131 := by rw [e_132]; exact J.upf h_130 (a := 23) (k := (1, 5)) rfl (by decide) (by decide) (by decide) (Or.inl (by decide)) rfl
                  refine zH_ck (zIn (rfl : x_1.toInt = _) (by omega) (by omega)) ?_
                  refine zH_lt (fun μ_134 e_135 => ?_)
                  have h_136 : J L M μ_134 := by rw [e_135]; exact J.upf h_133 (a := 24) (k := (1, 5)) rfl (by decide) (by decide) (by decide) (Or.inl (by decide)) rfl
                  refine zH_eqc (rfl : x_120.toInt = _) (iL (-1) (-1) rfl) (fun c_137e c_137 => ?_) (fun c_137e c_137 => ?_)
                  · have q_138 : (0 : Int32).toInt = (0 : Int) := (iL (0) (0) rfl)
                    exact zH_some ⟨h_136, show (0 : Int32).toInt = 0 ∨ (0 : Int32).toInt = 1 from by have q_139 : ((0 : Int32)).toInt = (0 : Int) := (iL (0) (0) rfl); omega⟩
                  · exact zH_some ⟨h_136, show (1 : Int32).toInt = 0 ∨ (1 : Int32).toInt = 1 from by have q_140 : ((1 : Int32)).toInt = (1 : Int) := (iL (1) (1) rfl); omega⟩
          · unfold fX2_readGroup_n96
            have w2 : (2 : Int32).toInt = 2 := rfl
            have w3 : (μ 19 (2 : Int32).toNatClampNeg).toInt = (μ 19 2).toInt := rfl
            refine zH_eqc (rfl : x_25.toInt = _) (iL (-1) (-1) rfl) (fun c_141e c_141 => ?_) (fun c_141e c_141 => ?_)
            · have q_142 : (0 : Int32).toInt = (0 : Int) := (iL (0) (0) rfl)
              exact zH_some ⟨h_87, show (0 : Int32).toInt = 0 ∨ (0 : Int32).toInt = 1 from by have q_143 : ((0 : Int32)).toInt = (0 : Int) := (iL (0) (0) rfl); omega⟩
            · refine zH_eqc (iL (0) (0) rfl) (iL (-1) (-1) rfl) (fun c_144e c_144 => ?_) (fun c_144e c_144 => ?_)
              · have q_145 : (0 : Int32).toInt = (0 : Int) := (iL (0) (0) rfl)
                exact zH_some ⟨h_87, show (0 : Int32).toInt = 0 ∨ (0 : Int32).toInt = 1 from by have q_146 : ((0 : Int32)).toInt = (0 : Int) := (iL (0) (0) rfl); omega⟩
              · have q_147 : (6 : Int32).toInt = (6 : Int) := (iL (6) (6) rfl)
                refine zH_bp (tX7_passIfThere h_87.hl h_87.jl) (fun x_148 μ_149 p_150 => ?_)
                have h_151 : J L M μ_149 := h_87.lex p_150.1
                have q_152 : x_148.toInt = 0 ∨ x_148.toInt = 1 := p_150.2
                refine zH_eqc (rfl : x_148.toInt = _) (iL (0) (0) rfl) (fun c_153e c_153 => ?_) (fun c_153e c_153 => ?_)
                · unfold fX2_readGroup_n134
                  have w2 : (2 : Int32).toInt = 2 := rfl
                  have w3 : (μ 19 (2 : Int32).toNatClampNeg).toInt = (μ 19 2).toInt := rfl
                  refine zH_ck (zIn (rfl : x_1.toInt = _) (by omega) (by omega)) ?_
                  refine zH_lt (fun μ_154 e_155 => ?_)
                  have h_156 : J L M μ_154 := by rw [e_155]; exact J.upf h_151 (a := 21) (k := (1, 5)) rfl (by decide) (by decide) (by decide) (Or.inl (by decide)) rfl
                  refine zH_ck (zIn (rfl : x_1.toInt = _) (by omega) (by omega)) ?_
                  refine zH_lt (fun μ_157 e_158 => ?_)
                  have h_159 : J L M μ_157 := by rw [e_158]; exact J.upf h_156 (a := 22) (k := (1, 5)) rfl (by decide) (by decide) (by decide) (Or.inl (by decide)) rfl
                  refine zH_ck (zIn (rfl : x_1.toInt = _) (by omega) (by omega)) ?_
                  refine zH_lt (fun μ_160 e_161 => ?_)
                  have h_162 : J L M μ_160 := by rw [e_161]; exact J.upf h_159 (a := 23) (k := (1, 5)) rfl (by decide) (by decide) (by decide) (Or.inl (by decide)) rfl
                  refine zH_ck (zIn (rfl : x_1.toInt = _) (by omega) (by omega)) ?_
                  refine zH_lt (fun μ_163 e_164 => ?_)
                  have h_165 : J L M μ_163 := by rw [e_164]; exact J.upf h_162 (a := 24) (k := (1, 5)) rfl (by decide) (by decide) (by decide) (Or.inl (by decide)) rfl
                  refine zH_eqc (iL (1) (1) rfl) (iL (-1) (-1) rfl) (fun c_166e c_166 => ?_) (fun c_166e c_166 => ?_)
                  · have q_167 : (0 : Int32).toInt = (0 : Int) := (iL (0) (0) rfl)
                    exact zH_some ⟨h_165, show (0 : Int32).toInt = 0 ∨ (0 : Int32).toInt = 1 from by have q_168 : ((0 : Int32)).toInt = (0 : Int) := (iL (0) (0) rfl); omega⟩
                  · exact zH_some ⟨h_165, show (1 : Int32).toInt = 0 ∨ (1 : Int32).toInt = 1 from by have q_169 : ((1 : Int32)).toInt = (1 : Int) := (iL (1) (1) rfl); omega⟩
                · have q_170 : (8 : Int32).toInt = (8 : Int) := (iL (8) (8) rfl)
                  refine zH_bp (tX7_number h_151.hl h_151.jl) (fun x_171 μ_172 p_173 => ?_)
                  have h_174 : J L M μ_172 := h_151.lex p_173.1
                  have q_175 : x_171.toInt = -1 ∨ ((1 : Int32).toInt ≤ x_171.toInt ∧ x_171.toInt ≤ (8 : Int32).toInt) := p_173.2
                  unfold fX2_readGroup_n134
                  have w2 : (2 : Int32).toInt = 2 := rfl
                  have w3 : (μ 19 (2 : Int32).toNatClampNeg).toInt = (μ 19 2).toInt := rfl
                  refine zH_ck (zIn (rfl : x_1.toInt = _) (by omega) (by omega)) ?_
                  refine zH_lt (fun μ_176 e_177 => ?_)
                  have h_178 : J L M μ_176 := by rw [e_177]; exact J.upf h_174 (a := 21) (k := (1, 5)) rfl (by decide) (by decide) (by decide) (Or.inl (by decide)) rfl
                  refine zH_ck (zIn (rfl : x_1.toInt = _) (by omega) (by omega)) ?_
                  refine zH_lt (fun μ_179 e_180 => ?_)
                  have h_181 : J L M μ_179 := by rw [e_180]; exact J.upf h_178 (a := 22) (k := (1, 5)) rfl (by decide) (by decide) (by decide) (Or.inl (by decide)) rfl
                  refine zH_ck (zIn (rfl : x_1.toInt = _) (by omega) (by omega)) ?_
                  refine zH_lt (fun μ_182 e_183 => ?_)
                  have h_184 : J L M μ_182 := by rw [e_183]; exact J.upf h_181 (a := 23) (k := (1, 5)) rfl (by decide) (by decide) (by decide) (Or.inl (by decide)) rfl
                  refine zH_ck (zIn (rfl : x_1.toInt = _) (by omega) (by omega)) ?_
                  refine zH_lt (fun μ_185 e_186 => ?_)
                  have h_187 : J L M μ_185 := by rw [e_186]; exact J.upf h_184 (a := 24) (k := (1, 5)) rfl (by decide) (by decide) (by decide) (Or.inl (by decide)) rfl
                  refine zH_eqc (rfl : x_171.toInt = _) (iL (-1) (-1) rfl) (fun c_188e c_188 => ?_) (fun c_188e c_188 => ?_)
                  · have q_189 : (0 : Int32).toInt = (0 : Int) := (iL (0) (0) rfl)
                    exact zH_some ⟨h_187, show (0 : Int32).toInt = 0 ∨ (0 : Int32).toInt = 1 from by have q_190 : ((0 : Int32)).toInt = (0 : Int) := (iL (0) (0) rfl); omega⟩
                  · exact zH_some ⟨h_187, show (1 : Int32).toInt = 0 ∨ (1 : Int32).toInt = 1 from by have q_191 : ((1 : Int32)).toInt = (1 : Int) := (iL (1) (1) rfl); omega⟩
      · have q_192 : (4 : Int32).toInt = (4 : Int) := (iL (4) (4) rfl)
        refine zH_bp (tX7_passIfThere h_28.hl h_28.jl) (fun x_193 μ_194 p_195 => ?_)
        have h_196 : J L M μ_194 := h_28.lex p_195.1
        have q_197 : x_193.toInt = 0 ∨ x_193.toInt = 1 := p_195.2
        refine zH_eqc (rfl : x_193.toInt = _) (iL (0) (0) rfl) (fun c_198e c_198 => ?_) (fun c_198e c_198 => ?_)
        · unfold fX2_readGroup_n77
          have w2 : (2 : Int32).toInt = 2 := rfl
          have w3 : (μ 19 (2 : Int32).toNatClampNeg).toInt = (μ 19 2).toInt := rfl
          refine zH_eqc (rfl : x_25.toInt = _) (iL (-1) (-1) rfl) (fun c_199e c_199 => ?_) (fun c_199e c_199 => ?_)
          · unfold fX2_readGroup_n96
            have w2 : (2 : Int32).toInt = 2 := rfl
            have w3 : (μ 19 (2 : Int32).toNatClampNeg).toInt = (μ 19 2).toInt := rfl
            refine zH_eqc (rfl : x_25.toInt = _) (iL (-1) (-1) rfl) (fun c_200e c_200 => ?_) (fun c_200e c_200 => ?_)
            · have q_201 : (0 : Int32).toInt = (0 : Int) := (iL (0) (0) rfl)
              exact zH_some ⟨h_196, show (0 : Int32).toInt = 0 ∨ (0 : Int32).toInt = 1 from by have q_202 : ((0 : Int32)).toInt = (0 : Int) := (iL (0) (0) rfl); omega⟩
            · refine zH_eqc (iL (0) (0) rfl) (iL (-1) (-1) rfl) (fun c_203e c_203 => ?_) (fun c_203e c_203 => ?_)
              · have q_204 : (0 : Int32).toInt = (0 : Int) := (iL (0) (0) rfl)
                exact zH_some ⟨h_196, show (0 : Int32).toInt = 0 ∨ (0 : Int32).toInt = 1 from by have q_205 : ((0 : Int32)).toInt = (0 : Int) := (iL (0) (0) rfl); omega⟩
              · have q_206 : (6 : Int32).toInt = (6 : Int) := (iL (6) (6) rfl)
                refine zH_bp (tX7_passIfThere h_196.hl h_196.jl) (fun x_207 μ_208 p_209 => ?_)
                have h_210 : J L M μ_208 := h_196.lex p_209.1
                have q_211 : x_207.toInt = 0 ∨ x_207.toInt = 1 := p_209.2
                refine zH_eqc (rfl : x_207.toInt = _) (iL (0) (0) rfl) (fun c_212e c_212 => ?_) (fun c_212e c_212 => ?_)
                · unfold fX2_readGroup_n134
                  have w2 : (2 : Int32).toInt = 2 := rfl
                  have w3 : (μ 19 (2 : Int32).toNatClampNeg).toInt = (μ 19 2).toInt := rfl
                  refine zH_ck (zIn (rfl : x_1.toInt = _) (by omega) (by omega)) ?_
                  refine zH_lt (fun μ_213 e_214 => ?_)
                  have h_215 : J L M μ_213 := by rw [e_214]; exact J.upf h_210 (a := 21) (k := (1, 5)) rfl (by decide) (by decide) (by decide) (Or.inl (by decide)) rfl
                  refine zH_ck (zIn (rfl : x_1.toInt = _) (by omega) (by omega)) ?_
                  refine zH_lt (fun μ_216 e_217 => ?_)
                  have h_218 : J L M μ_216 := by rw [e_217]; exact J.upf h_215 (a := 22) (k := (1, 5)) rfl (by decide) (by decide) (by decide) (Or.inl (by decide)) rfl
                  refine zH_ck (zIn (rfl : x_1.toInt = _) (by omega) (by omega)) ?_
                  refine zH_lt (fun μ_219 e_220 => ?_)
                  have h_221 : J L M μ_219 := by rw [e_220]; exact J.upf h_218 (a := 23) (k := (1, 5)) rfl (by decide) (by decide) (by decide) (Or.inl (by decide)) rfl
                  refine zH_ck (zIn (rfl : x_1.toInt = _) (by omega) (by omega)) ?_
                  refine zH_lt (fun μ_222 e_223 => ?_)
                  have h_224 : J L M μ_222 := by rw [e_223]; exact J.upf h_221 (a := 24) (k := (1, 5)) rfl (by decide) (by decide) (by decide) (Or.inl (by decide)) rfl
                  refine zH_eqc (iL (1) (1) rfl) (iL (-1) (-1) rfl) (fun c_225e c_225 => ?_) (fun c_225e c_225 => ?_)
                  · have q_226 : (0 : Int32).toInt = (0 : Int) := (iL (0) (0) rfl)
                    exact zH_some ⟨h_224, show (0 : Int32).toInt = 0 ∨ (0 : Int32).toInt = 1 from by have q_227 : ((0 : Int32)).toInt = (0 : Int) := (iL (0) (0) rfl); omega⟩
                  · exact zH_some ⟨h_224, show (1 : Int32).toInt = 0 ∨ (1 : Int32).toInt = 1 from by have q_228 : ((1 : Int32)).toInt = (1 : Int) := (iL (1) (1) rfl); omega⟩
                · have q_229 : (8 : Int32).toInt = (8 : Int) := (iL (8) (8) rfl)
                  refine zH_bp (tX7_number h_210.hl h_210.jl) (fun x_230 μ_231 p_232 => ?_)
                  have h_233 : J L M μ_231 := h_210.lex p_232.1
                  have q_234 : x_230.toInt = -1 ∨ ((1 : Int32).toInt ≤ x_230.toInt ∧ x_230.toInt ≤ (8 : Int32).toInt) := p_232.2
                  unfold fX2_readGroup_n134
                  have w2 : (2 : Int32).toInt = 2 := rfl
                  have w3 : (μ 19 (2 : Int32).toNatClampNeg).toInt = (μ 19 2).toInt := rfl
                  refine zH_ck (zIn (rfl : x_1.toInt = _) (by omega) (by omega)) ?_
                  refine zH_lt (fun μ_235 e_236 => ?_)
                  have h_237 : J L M μ_235 := by rw [e_236]; exact J.upf h_233 (a := 21) (k := (1, 5)) rfl (by decide) (by decide) (by decide) (Or.inl (by decide)) rfl
                  refine zH_ck (zIn (rfl : x_1.toInt = _) (by omega) (by omega)) ?_
                  refine zH_lt (fun μ_238 e_239 => ?_)
                  have h_240 : J L M μ_238 := by rw [e_239]; exact J.upf h_237 (a := 22) (k := (1, 5)) rfl (by decide) (by decide) (by decide) (Or.inl (by decide)) rfl
                  refine zH_ck (zIn (rfl : x_1.toInt = _) (by omega) (by omega)) ?_
                  refine zH_lt (fun μ_241 e_242 => ?_)
                  have h_243 : J L M μ_241 := by rw [e_242]; exact J.upf h_240 (a := 23) (k := (1, 5)) rfl (by decide) (by decide) (by decide) (Or.inl (by decide)) rfl
                  refine zH_ck (zIn (rfl : x_1.toInt = _) (by omega) (by omega)) ?_
                  refine zH_lt (fun μ_244 e_245 => ?_)
                  have h_246 : J L M μ_244 := by rw [e_245]; exact J.upf h_243 (a := 24) (k := (1, 5)) rfl (by decide) (by decide) (by decide) (Or.inl (by decide)) rfl
                  refine zH_eqc (rfl : x_230.toInt = _) (iL (-1) (-1) rfl) (fun c_247e c_247 => ?_) (fun c_247e c_247 => ?_)
                  · have q_248 : (0 : Int32).toInt = (0 : Int) := (iL (0) (0) rfl)
                    exact zH_some ⟨h_246, show (0 : Int32).toInt = 0 ∨ (0 : Int32).toInt = 1 from by have q_249 : ((0 : Int32)).toInt = (0 : Int) := (iL (0) (0) rfl); omega⟩
                  · exact zH_some ⟨h_246, show (1 : Int32).toInt = 0 ∨ (1 : Int32).toInt = 1 from by have q_250 : ((1 : Int32)).toInt = (1 : Int) := (iL (1) (1) rfl); omega⟩
          · have q_251 : (5 : Int32).toInt = (5 : Int) := (iL (5) (5) rfl)
            refine zH_bp (tX7_passIfThere h_196.hl h_196.jl) (fun x_252 μ_253 p_254 => ?_)
            have h_255 : J L M μ_253 := h_196.lex p_254.1
            have q_256 : x_252.toInt = 0 ∨ x_252.toInt = 1 := p_254.2
            refine zH_eqc (rfl : x_252.toInt = _) (iL (0) (0) rfl) (fun c_257e c_257 => ?_) (fun c_257e c_257 => ?_)
            · unfold fX2_readGroup_n96
              have w2 : (2 : Int32).toInt = 2 := rfl
              have w3 : (μ 19 (2 : Int32).toNatClampNeg).toInt = (μ 19 2).toInt := rfl
              refine zH_eqc (rfl : x_25.toInt = _) (iL (-1) (-1) rfl) (fun c_258e c_258 => ?_) (fun c_258e c_258 => ?_)
              · have q_259 : (0 : Int32).toInt = (0 : Int) := (iL (0) (0) rfl)
                exact zH_some ⟨h_255, show (0 : Int32).toInt = 0 ∨ (0 : Int32).toInt = 1 from by have q_260 : ((0 : Int32)).toInt = (0 : Int) := (iL (0) (0) rfl); omega⟩
              · refine zH_eqc (iL (0) (0) rfl) (iL (-1) (-1) rfl) (fun c_261e c_261 => ?_) (fun c_261e c_261 => ?_)
                · have q_262 : (0 : Int32).toInt = (0 : Int) := (iL (0) (0) rfl)
                  exact zH_some ⟨h_255, show (0 : Int32).toInt = 0 ∨ (0 : Int32).toInt = 1 from by have q_263 : ((0 : Int32)).toInt = (0 : Int) := (iL (0) (0) rfl); omega⟩
                · have q_264 : (6 : Int32).toInt = (6 : Int) := (iL (6) (6) rfl)
                  refine zH_bp (tX7_passIfThere h_255.hl h_255.jl) (fun x_265 μ_266 p_267 => ?_)
                  have h_268 : J L M μ_266 := h_255.lex p_267.1
                  have q_269 : x_265.toInt = 0 ∨ x_265.toInt = 1 := p_267.2
                  refine zH_eqc (rfl : x_265.toInt = _) (iL (0) (0) rfl) (fun c_270e c_270 => ?_) (fun c_270e c_270 => ?_)
                  · unfold fX2_readGroup_n134
                    have w2 : (2 : Int32).toInt = 2 := rfl
                    have w3 : (μ 19 (2 : Int32).toNatClampNeg).toInt = (μ 19 2).toInt := rfl
                    refine zH_ck (zIn (rfl : x_1.toInt = _) (by omega) (by omega)) ?_
                    refine zH_lt (fun μ_271 e_272 => ?_)
                    have h_273 : J L M μ_271 := by rw [e_272]; exact J.upf h_268 (a := 21) (k := (1, 5)) rfl (by decide) (by decide) (by decide) (Or.inl (by decide)) rfl
                    refine zH_ck (zIn (rfl : x_1.toInt = _) (by omega) (by omega)) ?_
                    refine zH_lt (fun μ_274 e_275 => ?_)
                    have h_276 : J L M μ_274 := by rw [e_275]; exact J.upf h_273 (a := 22) (k := (1, 5)) rfl (by decide) (by decide) (by decide) (Or.inl (by decide)) rfl
                    refine zH_ck (zIn (rfl : x_1.toInt = _) (by omega) (by omega)) ?_
                    refine zH_lt (fun μ_277 e_278 => ?_)
                    have h_279 : J L M μ_277 := by rw [e_278]; exact J.upf h_276 (a := 23) (k := (1, 5)) rfl (by decide) (by decide) (by decide) (Or.inl (by decide)) rfl
                    refine zH_ck (zIn (rfl : x_1.toInt = _) (by omega) (by omega)) ?_
                    refine zH_lt (fun μ_280 e_281 => ?_)
                    have h_282 : J L M μ_280 := by rw [e_281]; exact J.upf h_279 (a := 24) (k := (1, 5)) rfl (by decide) (by decide) (by decide) (Or.inl (by decide)) rfl
                    refine zH_eqc (iL (1) (1) rfl) (iL (-1) (-1) rfl) (fun c_283e c_283 => ?_) (fun c_283e c_283 => ?_)
                    · have q_284 : (0 : Int32).toInt = (0 : Int) := (iL (0) (0) rfl)
                      exact zH_some ⟨h_282, show (0 : Int32).toInt = 0 ∨ (0 : Int32).toInt = 1 from by have q_285 : ((0 : Int32)).toInt = (0 : Int) := (iL (0) (0) rfl); omega⟩
                    · exact zH_some ⟨h_282, show (1 : Int32).toInt = 0 ∨ (1 : Int32).toInt = 1 from by have q_286 : ((1 : Int32)).toInt = (1 : Int) := (iL (1) (1) rfl); omega⟩
                  · have q_287 : (8 : Int32).toInt = (8 : Int) := (iL (8) (8) rfl)
                    refine zH_bp (tX7_number h_268.hl h_268.jl) (fun x_288 μ_289 p_290 => ?_)
                    have h_291 : J L M μ_289 := h_268.lex p_290.1
                    have q_292 : x_288.toInt = -1 ∨ ((1 : Int32).toInt ≤ x_288.toInt ∧ x_288.toInt ≤ (8 : Int32).toInt) := p_290.2
                    unfold fX2_readGroup_n134
                    have w2 : (2 : Int32).toInt = 2 := rfl
                    have w3 : (μ 19 (2 : Int32).toNatClampNeg).toInt = (μ 19 2).toInt := rfl
                    refine zH_ck (zIn (rfl : x_1.toInt = _) (by omega) (by omega)) ?_
                    refine zH_lt (fun μ_293 e_294 => ?_)
                    have h_295 : J L M μ_293 := by rw [e_294]; exact J.upf h_291 (a := 21) (k := (1, 5)) rfl (by decide) (by decide) (by decide) (Or.inl (by decide)) rfl
                    refine zH_ck (zIn (rfl : x_1.toInt = _) (by omega) (by omega)) ?_
                    refine zH_lt (fun μ_296 e_297 => ?_)
                    have h_298 : J L M μ_296 := by rw [e_297]; exact J.upf h_295 (a := 22) (k := (1, 5)) rfl (by decide) (by decide) (by decide) (Or.inl (by decide)) rfl
                    refine zH_ck (zIn (rfl : x_1.toInt = _) (by omega) (by omega)) ?_
                    refine zH_lt (fun μ_299 e_300 => ?_)
                    have h_301 : J L M μ_299 := by rw [e_300]; exact J.upf h_298 (a := 23) (k := (1, 5)) rfl (by decide) (by decide) (by decide) (Or.inl (by decide)) rfl
                    refine zH_ck (zIn (rfl : x_1.toInt = _) (by omega) (by omega)) ?_
                    refine zH_lt (fun μ_302 e_303 => ?_)
                    have h_304 : J L M μ_302 := by rw [e_303]; exact J.upf h_301 (a := 24) (k := (1, 5)) rfl (by decide) (by decide) (by decide) (Or.inl (by decide)) rfl
                    refine zH_eqc (rfl : x_288.toInt = _) (iL (-1) (-1) rfl) (fun c_305e c_305 => ?_) (fun c_305e c_305 => ?_)
                    · have q_306 : (0 : Int32).toInt = (0 : Int) := (iL (0) (0) rfl)
                      exact zH_some ⟨h_304, show (0 : Int32).toInt = 0 ∨ (0 : Int32).toInt = 1 from by have q_307 : ((0 : Int32)).toInt = (0 : Int) := (iL (0) (0) rfl); omega⟩
                    · exact zH_some ⟨h_304, show (1 : Int32).toInt = 0 ∨ (1 : Int32).toInt = 1 from by have q_308 : ((1 : Int32)).toInt = (1 : Int) := (iL (1) (1) rfl); omega⟩
            · unfold fX2_readGroup_n96
              have w2 : (2 : Int32).toInt = 2 := rfl
              have w3 : (μ 19 (2 : Int32).toNatClampNeg).toInt = (μ 19 2).toInt := rfl
              refine zH_eqc (rfl : x_25.toInt = _) (iL (-1) (-1) rfl) (fun c_309e c_309 => ?_) (fun c_309e c_309 => ?_)
              · have q_310 : (0 : Int32).toInt = (0 : Int) := (iL (0) (0) rfl)
                exact zH_some ⟨h_255, show (0 : Int32).toInt = 0 ∨ (0 : Int32).toInt = 1 from by have q_311 : ((0 : Int32)).toInt = (0 : Int) := (iL (0) (0) rfl); omega⟩
              · refine zH_eqc (iL (0) (0) rfl) (iL (-1) (-1) rfl) (fun c_312e c_312 => ?_) (fun c_312e c_312 => ?_)
                · have q_313 : (0 : Int32).toInt = (0 : Int) := (iL (0) (0) rfl)
                  exact zH_some ⟨h_255, show (0 : Int32).toInt = 0 ∨ (0 : Int32).toInt = 1 from by have q_314 : ((0 : Int32)).toInt = (0 : Int) := (iL (0) (0) rfl); omega⟩
                · have q_315 : (6 : Int32).toInt = (6 : Int) := (iL (6) (6) rfl)
                  refine zH_bp (tX7_passIfThere h_255.hl h_255.jl) (fun x_316 μ_317 p_318 => ?_)
                  have h_319 : J L M μ_317 := h_255.lex p_318.1
                  have q_320 : x_316.toInt = 0 ∨ x_316.toInt = 1 := p_318.2
                  refine zH_eqc (rfl : x_316.toInt = _) (iL (0) (0) rfl) (fun c_321e c_321 => ?_) (fun c_321e c_321 => ?_)
                  · unfold fX2_readGroup_n134
                    have w2 : (2 : Int32).toInt = 2 := rfl
                    have w3 : (μ 19 (2 : Int32).toNatClampNeg).toInt = (μ 19 2).toInt := rfl
                    refine zH_ck (zIn (rfl : x_1.toInt = _) (by omega) (by omega)) ?_
                    refine zH_lt (fun μ_322 e_323 => ?_)
                    have h_324 : J L M μ_322 := by rw [e_323]; exact J.upf h_319 (a := 21) (k := (1, 5)) rfl (by decide) (by decide) (by decide) (Or.inl (by decide)) rfl
                    refine zH_ck (zIn (rfl : x_1.toInt = _) (by omega) (by omega)) ?_
                    refine zH_lt (fun μ_325 e_326 => ?_)
                    have h_327 : J L M μ_325 := by rw [e_326]; exact J.upf h_324 (a := 22) (k := (1, 5)) rfl (by decide) (by decide) (by decide) (Or.inl (by decide)) rfl
                    refine zH_ck (zIn (rfl : x_1.toInt = _) (by omega) (by omega)) ?_
                    refine zH_lt (fun μ_328 e_329 => ?_)
                    have h_330 : J L M μ_328 := by rw [e_329]; exact J.upf h_327 (a := 23) (k := (1, 5)) rfl (by decide) (by decide) (by decide) (Or.inl (by decide)) rfl
                    refine zH_ck (zIn (rfl : x_1.toInt = _) (by omega) (by omega)) ?_
                    refine zH_lt (fun μ_331 e_332 => ?_)
                    have h_333 : J L M μ_331 := by rw [e_332]; exact J.upf h_330 (a := 24) (k := (1, 5)) rfl (by decide) (by decide) (by decide) (Or.inl (by decide)) rfl
                    refine zH_eqc (iL (1) (1) rfl) (iL (-1) (-1) rfl) (fun c_334e c_334 => ?_) (fun c_334e c_334 => ?_)
                    · have q_335 : (0 : Int32).toInt = (0 : Int) := (iL (0) (0) rfl)
                      exact zH_some ⟨h_333, show (0 : Int32).toInt = 0 ∨ (0 : Int32).toInt = 1 from by have q_336 : ((0 : Int32)).toInt = (0 : Int) := (iL (0) (0) rfl); omega⟩
                    · exact zH_some ⟨h_333, show (1 : Int32).toInt = 0 ∨ (1 : Int32).toInt = 1 from by have q_337 : ((1 : Int32)).toInt = (1 : Int) := (iL (1) (1) rfl); omega⟩
                  · have q_338 : (8 : Int32).toInt = (8 : Int) := (iL (8) (8) rfl)
                    refine zH_bp (tX7_number h_319.hl h_319.jl) (fun x_339 μ_340 p_341 => ?_)
                    have h_342 : J L M μ_340 := h_319.lex p_341.1
                    have q_343 : x_339.toInt = -1 ∨ ((1 : Int32).toInt ≤ x_339.toInt ∧ x_339.toInt ≤ (8 : Int32).toInt) := p_341.2
                    unfold fX2_readGroup_n134
                    have w2 : (2 : Int32).toInt = 2 := rfl
                    have w3 : (μ 19 (2 : Int32).toNatClampNeg).toInt = (μ 19 2).toInt := rfl
                    refine zH_ck (zIn (rfl : x_1.toInt = _) (by omega) (by omega)) ?_
                    refine zH_lt (fun μ_344 e_345 => ?_)
                    have h_346 : J L M μ_344 := by rw [e_345]; exact J.upf h_342 (a := 21) (k := (1, 5)) rfl (by decide) (by decide) (by decide) (Or.inl (by decide)) rfl
                    refine zH_ck (zIn (rfl : x_1.toInt = _) (by omega) (by omega)) ?_
                    refine zH_lt (fun μ_347 e_348 => ?_)
                    have h_349 : J L M μ_347 := by rw [e_348]; exact J.upf h_346 (a := 22) (k := (1, 5)) rfl (by decide) (by decide) (by decide) (Or.inl (by decide)) rfl
                    refine zH_ck (zIn (rfl : x_1.toInt = _) (by omega) (by omega)) ?_
                    refine zH_lt (fun μ_350 e_351 => ?_)
                    have h_352 : J L M μ_350 := by rw [e_351]; exact J.upf h_349 (a := 23) (k := (1, 5)) rfl (by decide) (by decide) (by decide) (Or.inl (by decide)) rfl
                    refine zH_ck (zIn (rfl : x_1.toInt = _) (by omega) (by omega)) ?_
                    refine zH_lt (fun μ_353 e_354 => ?_)
                    have h_355 : J L M μ_353 := by rw [e_354]; exact J.upf h_352 (a := 24) (k := (1, 5)) rfl (by decide) (by decide) (by decide) (Or.inl (by decide)) rfl
                    refine zH_eqc (rfl : x_339.toInt = _) (iL (-1) (-1) rfl) (fun c_356e c_356 => ?_) (fun c_356e c_356 => ?_)
                    · have q_357 : (0 : Int32).toInt = (0 : Int) := (iL (0) (0) rfl)
                      exact zH_some ⟨h_355, show (0 : Int32).toInt = 0 ∨ (0 : Int32).toInt = 1 from by have q_358 : ((0 : Int32)).toInt = (0 : Int) := (iL (0) (0) rfl); omega⟩
                    · exact zH_some ⟨h_355, show (1 : Int32).toInt = 0 ∨ (1 : Int32).toInt = 1 from by have q_359 : ((1 : Int32)).toInt = (1 : Int) := (iL (1) (1) rfl); omega⟩
        · have q_360 : (0 : Int32).toInt = (0 : Int) := (iL (0) (0) rfl)
          have q_361 : (99 : Int32).toInt = (99 : Int) := (iL (99) (99) rfl)
          refine zH_bp (tX7_number h_196.hl h_196.jl) (fun x_362 μ_363 p_364 => ?_)
          have h_365 : J L M μ_363 := h_196.lex p_364.1
          have q_366 : x_362.toInt = -1 ∨ ((0 : Int32).toInt ≤ x_362.toInt ∧ x_362.toInt ≤ (99 : Int32).toInt) := p_364.2
          unfold fX2_readGroup_n96
          have w2 : (2 : Int32).toInt = 2 := rfl
          have w3 : (μ 19 (2 : Int32).toNatClampNeg).toInt = (μ 19 2).toInt := rfl
          refine zH_eqc (rfl : x_25.toInt = _) (iL (-1) (-1) rfl) (fun c_367e c_367 => ?_) (fun c_367e c_367 => ?_)
          · exact zH_some ⟨h_365, show (0 : Int32).toInt = 0 ∨ (0 : Int32).toInt = 1 from by have q_368 : ((0 : Int32)).toInt = (0 : Int) := (iL (0) (0) rfl); omega⟩
          · refine zH_eqc (rfl : x_362.toInt = _) (iL (-1) (-1) rfl) (fun c_369e c_369 => ?_) (fun c_369e c_369 => ?_)
            · exact zH_some ⟨h_365, show (0 : Int32).toInt = 0 ∨ (0 : Int32).toInt = 1 from by have q_370 : ((0 : Int32)).toInt = (0 : Int) := (iL (0) (0) rfl); omega⟩
            · have q_371 : (6 : Int32).toInt = (6 : Int) := (iL (6) (6) rfl)
              refine zH_bp (tX7_passIfThere h_365.hl h_365.jl) (fun x_372 μ_373 p_374 => ?_)
              have h_375 : J L M μ_373 := h_365.lex p_374.1
              have q_376 : x_372.toInt = 0 ∨ x_372.toInt = 1 := p_374.2
              refine zH_eqc (rfl : x_372.toInt = _) (iL (0) (0) rfl) (fun c_377e c_377 => ?_) (fun c_377e c_377 => ?_)
              · unfold fX2_readGroup_n134
                have w2 : (2 : Int32).toInt = 2 := rfl
                have w3 : (μ 19 (2 : Int32).toNatClampNeg).toInt = (μ 19 2).toInt := rfl
                refine zH_ck (zIn (rfl : x_1.toInt = _) (by omega) (by omega)) ?_
                refine zH_lt (fun μ_378 e_379 => ?_)
                have h_380 : J L M μ_378 := by rw [e_379]; exact J.upf h_375 (a := 21) (k := (1, 5)) rfl (by decide) (by decide) (by decide) (Or.inl (by decide)) rfl
                refine zH_ck (zIn (rfl : x_1.toInt = _) (by omega) (by omega)) ?_
                refine zH_lt (fun μ_381 e_382 => ?_)
                have h_383 : J L M μ_381 := by rw [e_382]; exact J.upf h_380 (a := 22) (k := (1, 5)) rfl (by decide) (by decide) (by decide) (Or.inl (by decide)) rfl
                refine zH_ck (zIn (rfl : x_1.toInt = _) (by omega) (by omega)) ?_
                refine zH_lt (fun μ_384 e_385 => ?_)
                have h_386 : J L M μ_384 := by rw [e_385]; exact J.upf h_383 (a := 23) (k := (1, 5)) rfl (by decide) (by decide) (by decide) (Or.inl (by decide)) rfl
                refine zH_ck (zIn (rfl : x_1.toInt = _) (by omega) (by omega)) ?_
                refine zH_lt (fun μ_387 e_388 => ?_)
                have h_389 : J L M μ_387 := by rw [e_388]; exact J.upf h_386 (a := 24) (k := (1, 5)) rfl (by decide) (by decide) (by decide) (Or.inl (by decide)) rfl
                refine zH_eqc (iL (1) (1) rfl) (iL (-1) (-1) rfl) (fun c_390e c_390 => ?_) (fun c_390e c_390 => ?_)
                · exact zH_some ⟨h_389, show (0 : Int32).toInt = 0 ∨ (0 : Int32).toInt = 1 from by have q_391 : ((0 : Int32)).toInt = (0 : Int) := (iL (0) (0) rfl); omega⟩
                · exact zH_some ⟨h_389, show (1 : Int32).toInt = 0 ∨ (1 : Int32).toInt = 1 from by have q_392 : ((1 : Int32)).toInt = (1 : Int) := (iL (1) (1) rfl); omega⟩
              · have q_393 : (8 : Int32).toInt = (8 : Int) := (iL (8) (8) rfl)
                refine zH_bp (tX7_number h_375.hl h_375.jl) (fun x_394 μ_395 p_396 => ?_)
                have h_397 : J L M μ_395 := h_375.lex p_396.1
                have q_398 : x_394.toInt = -1 ∨ ((1 : Int32).toInt ≤ x_394.toInt ∧ x_394.toInt ≤ (8 : Int32).toInt) := p_396.2
                unfold fX2_readGroup_n134
                have w2 : (2 : Int32).toInt = 2 := rfl
                have w3 : (μ 19 (2 : Int32).toNatClampNeg).toInt = (μ 19 2).toInt := rfl
                refine zH_ck (zIn (rfl : x_1.toInt = _) (by omega) (by omega)) ?_
                refine zH_lt (fun μ_399 e_400 => ?_)
                have h_401 : J L M μ_399 := by rw [e_400]; exact J.upf h_397 (a := 21) (k := (1, 5)) rfl (by decide) (by decide) (by decide) (Or.inl (by decide)) rfl
                refine zH_ck (zIn (rfl : x_1.toInt = _) (by omega) (by omega)) ?_
                refine zH_lt (fun μ_402 e_403 => ?_)
                have h_404 : J L M μ_402 := by rw [e_403]; exact J.upf h_401 (a := 22) (k := (1, 5)) rfl (by decide) (by decide) (by decide) (Or.inl (by decide)) rfl
                refine zH_ck (zIn (rfl : x_1.toInt = _) (by omega) (by omega)) ?_
                refine zH_lt (fun μ_405 e_406 => ?_)
                have h_407 : J L M μ_405 := by rw [e_406]; exact J.upf h_404 (a := 23) (k := (1, 5)) rfl (by decide) (by decide) (by decide) (Or.inl (by decide)) rfl
                refine zH_ck (zIn (rfl : x_1.toInt = _) (by omega) (by omega)) ?_
                refine zH_lt (fun μ_408 e_409 => ?_)
                have h_410 : J L M μ_408 := by rw [e_409]; exact J.upf h_407 (a := 24) (k := (1, 5)) rfl (by decide) (by decide) (by decide) (Or.inl (by decide)) rfl
                refine zH_eqc (rfl : x_394.toInt = _) (iL (-1) (-1) rfl) (fun c_411e c_411 => ?_) (fun c_411e c_411 => ?_)
                · exact zH_some ⟨h_410, show (0 : Int32).toInt = 0 ∨ (0 : Int32).toInt = 1 from by have q_412 : ((0 : Int32)).toInt = (0 : Int) := (iL (0) (0) rfl); omega⟩
                · exact zH_some ⟨h_410, show (1 : Int32).toInt = 0 ∨ (1 : Int32).toInt = 1 from by have q_413 : ((1 : Int32)).toInt = (1 : Int) := (iL (1) (1) rfl); omega⟩
theorem tX2_readMember {L : Int32} {M : gM} {μ : gM}  (h : J L M μ)  : zH (fX2_readMember μ) (fun r => J L M r.2 ∧ (r.1.toInt = 0 ∨ r.1.toInt = 1)) := by
  unfold fX2_readMember
  refine zH_lt (fun x_1 e_2 => ?_)
  have q_3 : (0 : Int32).toInt = (0 : Int) := (iL (0) (0) rfl)
  refine zH_bp (tX7_known h.hl (Or.inr rfl) h.nb18 h.jl) (fun x_4 μ_5 p_6 => ?_)
  have h_7 : J L M μ_5 := h.lex p_6.1
  have q_8 : x_4.toInt = -1 ∨ (0 ≤ x_4.toInt ∧ x_4.toInt < 8 ∧ ((0 : Int32).toInt = 0 → x_4.toInt < 6) ∧ ((0 : Int32).toInt = 2 → x_4.toInt < 5)) := p_6.2
  refine zH_eqc (rfl : x_4.toInt = _) (iL (-1) (-1) rfl) (fun c_9e c_9 => ?_) (fun c_9e c_9 => ?_)
  · exact zH_some ⟨h_7, show (0 : Int32).toInt = 0 ∨ (0 : Int32).toInt = 1 from by have q_10 : ((0 : Int32)).toInt = (0 : Int) := (iL (0) (0) rfl); omega⟩
  · have q_11 : (8 : Int32).toInt = (8 : Int) := (iL (8) (8) rfl)
    refine zH_bp (tX7_pass h_7.hl h_7.jl) (fun x_12 μ_13 p_14 => ?_)
    have h_15 : J L M μ_13 := h_7.lex p_14.1
    have q_16 : x_12.toInt = 0 ∨ x_12.toInt = 1 := p_14.2
    refine zH_eqc (rfl : x_12.toInt = _) (iL (0) (0) rfl) (fun c_17e c_17 => ?_) (fun c_17e c_17 => ?_)
    · exact zH_some ⟨h_15, show (0 : Int32).toInt = 0 ∨ (0 : Int32).toInt = 1 from by have q_18 : ((0 : Int32)).toInt = (0 : Int) := (iL (0) (0) rfl); omega⟩
    · have q_19 : (2 : Int32).toInt = (2 : Int) := (iL (2) (2) rfl)
      refine zH_bp (tX7_known h_15.hl (Or.inr rfl) h_15.nb18 h_15.jl) (fun x_20 μ_21 p_22 => ?_)
      have h_23 : J L M μ_21 := h_15.lex p_22.1
      have q_24 : x_20.toInt = -1 ∨ (0 ≤ x_20.toInt ∧ x_20.toInt < 8 ∧ ((2 : Int32).toInt = 0 → x_20.toInt < 6) ∧ ((2 : Int32).toInt = 2 → x_20.toInt < 5)) := p_22.2
      refine zH_eqc (rfl : x_20.toInt = _) (iL (-1) (-1) rfl) (fun c_25e c_25 => ?_) (fun c_25e c_25 => ?_)
      · exact zH_some ⟨h_23, show (0 : Int32).toInt = 0 ∨ (0 : Int32).toInt = 1 from by have q_26 : ((0 : Int32)).toInt = (0 : Int) := (iL (0) (0) rfl); omega⟩
      · refine zH_bd (tX1_isMember h_23.nb18) (fun x_27 p_28 => ?_)
        have q_29 : (x_27.toInt = 0 ∨ x_27.toInt = 1) ∧ (x_27.toInt = 1 → 0 ≤ x_20.toInt ∧ x_20.toInt ≤ 4 ∧ 0 ≤ x_4.toInt ∧ x_4.toInt ≤ 5) := p_28
        refine zH_eqc (rfl : x_27.toInt = _) (iL (0) (0) rfl) (fun c_30e c_30 => ?_) (fun c_30e c_30 => ?_)
        · have q_31 : (9 : Int32).toInt = (9 : Int) := (iL (9) (9) rfl)
          refine zH_bp (tX7_pass h_23.hl h_23.jl) (fun x_32 μ_33 p_34 => ?_)
          have h_35 : J L M μ_33 := h_23.lex p_34.1
          have q_36 : x_32.toInt = 0 ∨ x_32.toInt = 1 := p_34.2
          refine zH_eqc (rfl : x_32.toInt = _) (iL (0) (0) rfl) (fun c_37e c_37 => ?_) (fun c_37e c_37 => ?_)
          · unfold fX2_readMember_n109
            refine zH_eqc (iL (-1) (-1) rfl) (iL (-1) (-1) rfl) (fun c_38e c_38 => ?_) (fun c_38e c_38 => ?_)
            · exact zH_some ⟨h_35, show (0 : Int32).toInt = 0 ∨ (0 : Int32).toInt = 1 from by have q_39 : ((0 : Int32)).toInt = (0 : Int) := (iL (0) (0) rfl); omega⟩
            · have q_40 : (10 : Int32).toInt = (10 : Int) := (iL (10) (10) rfl)
              refine zH_bp (tX7_passIfThere h_35.hl h_35.jl) (fun x_41 μ_42 p_43 => ?_)
              have h_44 : J L M μ_42 := h_35.lex p_43.1
              have q_45 : x_41.toInt = 0 ∨ x_41.toInt = 1 := p_43.2
              refine zH_eqc (rfl : x_41.toInt = _) (iL (0) (0) rfl) (fun c_46e c_46 => ?_) (fun c_46e c_46 => ?_)
              · unfold fX2_readMember_n145
                refine zH_ck (zIn (rfl : x_20.toInt = _) (by omega) (by omega)) ?_
                refine zH_ck (zIn (rfl : x_20.toInt = _) (by omega) (by omega)) ?_
                refine zH_lt (fun μ_47 e_48 => ?_)
                have h_49 : J L M μ_47 := by rw [e_48]; exact J.upf h_44 (a := 25) (k := (1, 5)) rfl (by decide) (by decide) (by decide) (Or.inl (by decide)) rfl
                refine zH_ck (zIn (iA (iM (rfl : x_20.toInt = _) (iL (6) (6) rfl) (by omega) (by omega)) (rfl : x_4.toInt = _) (by omega) (by omega)) (by omega) (by omega)) ?_
                refine zH_lt (fun μ_50 e_51 => ?_)
                have h_52 : J L M μ_50 := by rw [e_51]; exact J.upf h_49 (a := 26) (k := (1, 30)) rfl (by decide) (by decide) (by decide) (Or.inl (by decide)) rfl
                refine zH_ck (zIn (iA (iM (rfl : x_20.toInt = _) (iL (6) (6) rfl) (by omega) (by omega)) (rfl : x_4.toInt = _) (by omega) (by omega)) (by omega) (by omega)) ?_
                refine zH_lt (fun μ_53 e_54 => ?_)
                have h_55 : J L M μ_53 := by rw [e_54]; exact J.upf h_52 (a := 27) (k := (1, 30)) rfl (by decide) (by decide) (by decide) (Or.inl (by decide)) rfl
                refine zH_eqc (iL (1) (1) rfl) (iL (-1) (-1) rfl) (fun c_56e c_56 => ?_) (fun c_56e c_56 => ?_)
                · exact zH_some ⟨h_55, show (0 : Int32).toInt = 0 ∨ (0 : Int32).toInt = 1 from by have q_57 : ((0 : Int32)).toInt = (0 : Int) := (iL (0) (0) rfl); omega⟩
                · have q_58 : (1 : Int32).toInt = (1 : Int) := (iL (1) (1) rfl)
                  exact zH_some ⟨h_55, show (1 : Int32).toInt = 0 ∨ (1 : Int32).toInt = 1 from by have q_59 : ((1 : Int32)).toInt = (1 : Int) := (iL (1) (1) rfl); omega⟩
              · have q_60 : (99 : Int32).toInt = (99 : Int) := (iL (99) (99) rfl)
                refine zH_bp (tX7_number h_44.hl h_44.jl) (fun x_61 μ_62 p_63 => ?_)
                have h_64 : J L M μ_62 := h_44.lex p_63.1
                have q_65 : x_61.toInt = -1 ∨ ((0 : Int32).toInt ≤ x_61.toInt ∧ x_61.toInt ≤ (99 : Int32).toInt) := p_63.2
                unfold fX2_readMember_n145
                refine zH_ck (zIn (rfl : x_20.toInt = _) (by omega) (by omega)) ?_
                refine zH_ck (zIn (rfl : x_20.toInt = _) (by omega) (by omega)) ?_
                refine zH_lt (fun μ_66 e_67 => ?_)
                have h_68 : J L M μ_66 := by rw [e_67]; exact J.upf h_64 (a := 25) (k := (1, 5)) rfl (by decide) (by decide) (by decide) (Or.inl (by decide)) rfl
                refine zH_ck (zIn (iA (iM (rfl : x_20.toInt = _) (iL (6) (6) rfl) (by omega) (by omega)) (rfl : x_4.toInt = _) (by omega) (by omega)) (by omega) (by omega)) ?_
                refine zH_lt (fun μ_69 e_70 => ?_)
                have h_71 : J L M μ_69 := by rw [e_70]; exact J.upf h_68 (a := 26) (k := (1, 30)) rfl (by decide) (by decide) (by decide) (Or.inl (by decide)) rfl
                refine zH_ck (zIn (iA (iM (rfl : x_20.toInt = _) (iL (6) (6) rfl) (by omega) (by omega)) (rfl : x_4.toInt = _) (by omega) (by omega)) (by omega) (by omega)) ?_
                refine zH_lt (fun μ_72 e_73 => ?_)
                have h_74 : J L M μ_72 := by rw [e_73]; exact J.upf h_71 (a := 27) (k := (1, 30)) rfl (by decide) (by decide) (by decide) (Or.inl (by decide)) rfl
                refine zH_eqc (rfl : x_61.toInt = _) (iL (-1) (-1) rfl) (fun c_75e c_75 => ?_) (fun c_75e c_75 => ?_)
                · exact zH_some ⟨h_74, show (0 : Int32).toInt = 0 ∨ (0 : Int32).toInt = 1 from by have q_76 : ((0 : Int32)).toInt = (0 : Int) := (iL (0) (0) rfl); omega⟩
                · have q_77 : (1 : Int32).toInt = (1 : Int) := (iL (1) (1) rfl)
                  exact zH_some ⟨h_74, show (1 : Int32).toInt = 0 ∨ (1 : Int32).toInt = 1 from by have q_78 : ((1 : Int32)).toInt = (1 : Int) := (iL (1) (1) rfl); omega⟩
          · have q_79 : (1 : Int32).toInt = (1 : Int) := (iL (1) (1) rfl)
            have q_80 : (255 : Int32).toInt = (255 : Int) := (iL (255) (255) rfl)
            refine zH_bp (tX7_number h_35.hl h_35.jl) (fun x_81 μ_82 p_83 => ?_)
            have h_84 : J L M μ_82 := h_35.lex p_83.1
            have q_85 : x_81.toInt = -1 ∨ ((1 : Int32).toInt ≤ x_81.toInt ∧ x_81.toInt ≤ (255 : Int32).toInt) := p_83.2
            unfold fX2_readMember_n109
            refine zH_eqc (rfl : x_81.toInt = _) (iL (-1) (-1) rfl) (fun c_86e c_86 => ?_) (fun c_86e c_86 => ?_)
            · exact zH_some ⟨h_84, show (0 : Int32).toInt = 0 ∨ (0 : Int32).toInt = 1 from by have q_87 : ((0 : Int32)).toInt = (0 : Int) := (iL (0) (0) rfl); omega⟩
            · have q_88 : (10 : Int32).toInt = (10 : Int) := (iL (10) (10) rfl)
              refine zH_bp (tX7_passIfThere h_84.hl h_84.jl) (fun x_89 μ_90 p_91 => ?_)
              have h_92 : J L M μ_90 := h_84.lex p_91.1
              have q_93 : x_89.toInt = 0 ∨ x_89.toInt = 1 := p_91.2
              refine zH_eqc (rfl : x_89.toInt = _) (iL (0) (0) rfl) (fun c_94e c_94 => ?_) (fun c_94e c_94 => ?_)
              · unfold fX2_readMember_n145
                refine zH_ck (zIn (rfl : x_20.toInt = _) (by omega) (by omega)) ?_
                refine zH_ck (zIn (rfl : x_20.toInt = _) (by omega) (by omega)) ?_
                refine zH_lt (fun μ_95 e_96 => ?_)
                have h_97 : J L M μ_95 := by rw [e_96]; exact J.upf h_92 (a := 25) (k := (1, 5)) rfl (by decide) (by decide) (by decide) (Or.inl (by decide)) rfl
                refine zH_ck (zIn (iA (iM (rfl : x_20.toInt = _) (iL (6) (6) rfl) (by omega) (by omega)) (rfl : x_4.toInt = _) (by omega) (by omega)) (by omega) (by omega)) ?_
                refine zH_lt (fun μ_98 e_99 => ?_)
                have h_100 : J L M μ_98 := by rw [e_99]; exact J.upf h_97 (a := 26) (k := (1, 30)) rfl (by decide) (by decide) (by decide) (Or.inl (by decide)) rfl
                refine zH_ck (zIn (iA (iM (rfl : x_20.toInt = _) (iL (6) (6) rfl) (by omega) (by omega)) (rfl : x_4.toInt = _) (by omega) (by omega)) (by omega) (by omega)) ?_
                refine zH_lt (fun μ_101 e_102 => ?_)
                have h_103 : J L M μ_101 := by rw [e_102]; exact J.upf h_100 (a := 27) (k := (1, 30)) rfl (by decide) (by decide) (by decide) (Or.inl (by decide)) rfl
                refine zH_eqc (iL (1) (1) rfl) (iL (-1) (-1) rfl) (fun c_104e c_104 => ?_) (fun c_104e c_104 => ?_)
                · exact zH_some ⟨h_103, show (0 : Int32).toInt = 0 ∨ (0 : Int32).toInt = 1 from by have q_105 : ((0 : Int32)).toInt = (0 : Int) := (iL (0) (0) rfl); omega⟩
                · exact zH_some ⟨h_103, show (1 : Int32).toInt = 0 ∨ (1 : Int32).toInt = 1 from by have q_106 : ((1 : Int32)).toInt = (1 : Int) := (iL (1) (1) rfl); omega⟩
              · have q_107 : (99 : Int32).toInt = (99 : Int) := (iL (99) (99) rfl)
                refine zH_bp (tX7_number h_92.hl h_92.jl) (fun x_108 μ_109 p_110 => ?_)
                have h_111 : J L M μ_109 := h_92.lex p_110.1
                have q_112 : x_108.toInt = -1 ∨ ((0 : Int32).toInt ≤ x_108.toInt ∧ x_108.toInt ≤ (99 : Int32).toInt) := p_110.2
                unfold fX2_readMember_n145
                refine zH_ck (zIn (rfl : x_20.toInt = _) (by omega) (by omega)) ?_
                refine zH_ck (zIn (rfl : x_20.toInt = _) (by omega) (by omega)) ?_
                refine zH_lt (fun μ_113 e_114 => ?_)
                have h_115 : J L M μ_113 := by rw [e_114]; exact J.upf h_111 (a := 25) (k := (1, 5)) rfl (by decide) (by decide) (by decide) (Or.inl (by decide)) rfl
                refine zH_ck (zIn (iA (iM (rfl : x_20.toInt = _) (iL (6) (6) rfl) (by omega) (by omega)) (rfl : x_4.toInt = _) (by omega) (by omega)) (by omega) (by omega)) ?_
                refine zH_lt (fun μ_116 e_117 => ?_)
                have h_118 : J L M μ_116 := by rw [e_117]; exact J.upf h_115 (a := 26) (k := (1, 30)) rfl (by decide) (by decide) (by decide) (Or.inl (by decide)) rfl
                refine zH_ck (zIn (iA (iM (rfl : x_20.toInt = _) (iL (6) (6) rfl) (by omega) (by omega)) (rfl : x_4.toInt = _) (by omega) (by omega)) (by omega) (by omega)) ?_
                refine zH_lt (fun μ_119 e_120 => ?_)
                have h_121 : J L M μ_119 := by rw [e_120]; exact J.upf h_118 (a := 27) (k := (1, 30)) rfl (by decide) (by decide) (by decide) (Or.inl (by decide)) rfl
                refine zH_eqc (rfl : x_108.toInt = _) (iL (-1) (-1) rfl) (fun c_122e c_122 => ?_) (fun c_122e c_122 => ?_)
                · exact zH_some ⟨h_121, show (0 : Int32).toInt = 0 ∨ (0 : Int32).toInt = 1 from by have q_123 : ((0 : Int32)).toInt = (0 : Int) := (iL (0) (0) rfl); omega⟩
                · exact zH_some ⟨h_121, show (1 : Int32).toInt = 0 ∨ (1 : Int32).toInt = 1 from by have q_124 : ((1 : Int32)).toInt = (1 : Int) := (iL (1) (1) rfl); omega⟩
        · have q_125 : (5 : Int32).toInt = (5 : Int) := (iL (5) (5) rfl)
          refine zH_bp (tX7_refuse h_23.hl h_23.jl) (fun x_126 μ_127 p_128 => ?_)
          have h_129 : J L M μ_127 := h_23.lex p_128.1
          have q_130 : x_126.toInt = 0 := p_128.2
          refine zH_ck (zBo (show (x_126).toInt = 0 ∨ (x_126).toInt = 1 from by have q_131 : (x_126).toInt = x_126.toInt := (rfl : x_126.toInt = _); omega)) ?_
          exact zH_some ⟨h_129, show x_126.toInt = 0 ∨ x_126.toInt = 1 from by have q_132 : (x_126).toInt = x_126.toInt := (rfl : x_126.toInt = _); omega⟩
theorem tX2_readTrack {L : Int32} {M : gM} {μ : gM}  (h : J L M μ) (g0 : (μ 18 10).toInt < 24) : zH (fX2_readTrack μ) (fun r => J L M r.2 ∧ (r.1.toInt = 0 ∨ r.1.toInt = 1)) := by
  unfold fX2_readTrack
  refine zH_bp (tX7_knownMember h.hl (Or.inr rfl) h.nb18 h.jl) (fun x_1 μ_2 p_3 => ?_)
  have h_4 : J L M μ_2 := h.lex p_3.1
  have q_5 : (μ_2 18 10).toInt = (μ 18 10).toInt := congrArg Int32.toInt (congrFun (p_3.1.1 18 (by decide)) (10))
  have q_6 : x_1.toInt = -1 ∨ (0 ≤ x_1.toInt ∧ x_1.toInt ≤ 29) := p_3.2
  refine zH_eqc (rfl : x_1.toInt = _) (iL (-1) (-1) rfl) (fun c_7e c_7 => ?_) (fun c_7e c_7 => ?_)
  · have q_8 : (0 : Int32).toInt = (0 : Int) := (iL (0) (0) rfl)
    exact zH_some ⟨h_4, show (0 : Int32).toInt = 0 ∨ (0 : Int32).toInt = 1 from by have q_9 : ((0 : Int32)).toInt = (0 : Int) := (iL (0) (0) rfl); omega⟩
  · have q_10 : (12 : Int32).toInt = (12 : Int) := (iL (12) (12) rfl)
    refine zH_bp (tX7_pass h_4.hl h_4.jl) (fun x_11 μ_12 p_13 => ?_)
    have h_14 : J L M μ_12 := h_4.lex p_13.1
    have q_15 : (μ_12 18 10).toInt = (μ_2 18 10).toInt := congrArg Int32.toInt (congrFun (p_13.1.1 18 (by decide)) (10))
    have q_16 : x_11.toInt = 0 ∨ x_11.toInt = 1 := p_13.2
    refine zH_eqc (rfl : x_11.toInt = _) (iL (0) (0) rfl) (fun c_17e c_17 => ?_) (fun c_17e c_17 => ?_)
    · have q_18 : (0 : Int32).toInt = (0 : Int) := (iL (0) (0) rfl)
      exact zH_some ⟨h_14, show (0 : Int32).toInt = 0 ∨ (0 : Int32).toInt = 1 from by have q_19 : ((0 : Int32)).toInt = (0 : Int) := (iL (0) (0) rfl); omega⟩
    · refine zH_lt (fun x_20 e_21 => ?_)
      have q_22 : (1 : Int32).toInt = (1 : Int) := (iL (1) (1) rfl)
      refine zH_bp (tX7_known h_14.hl (Or.inr rfl) h_14.nb18 h_14.jl) (fun x_23 μ_24 p_25 => ?_)
      have h_26 : J L M μ_24 := h_14.lex p_25.1
      have q_27 : (μ_24 18 10).toInt = (μ_12 18 10).toInt := congrArg Int32.toInt (congrFun (p_25.1.1 18 (by decide)) (10))
      have q_28 : x_23.toInt = -1 ∨ (0 ≤ x_23.toInt ∧ x_23.toInt < 8 ∧ ((1 : Int32).toInt = 0 → x_23.toInt < 6) ∧ ((1 : Int32).toInt = 2 → x_23.toInt < 5)) := p_25.2
      refine zH_eqc (rfl : x_23.toInt = _) (iL (-1) (-1) rfl) (fun c_29e c_29 => ?_) (fun c_29e c_29 => ?_)
      · have q_30 : (0 : Int32).toInt = (0 : Int) := (iL (0) (0) rfl)
        exact zH_some ⟨h_26, show (0 : Int32).toInt = 0 ∨ (0 : Int32).toInt = 1 from by have q_31 : ((0 : Int32)).toInt = (0 : Int) := (iL (0) (0) rfl); omega⟩
      · refine zH_bd (tX1_isTracked) (fun x_32 p_33 => ?_)
        have q_34 : x_32.toInt = 0 ∨ x_32.toInt = 1 := p_33
        refine zH_eqc (rfl : x_32.toInt = _) (iL (0) (0) rfl) (fun c_35e c_35 => ?_) (fun c_35e c_35 => ?_)
        · have q_36 : (13 : Int32).toInt = (13 : Int) := (iL (13) (13) rfl)
          refine zH_bp (tX7_pass h_26.hl h_26.jl) (fun x_37 μ_38 p_39 => ?_)
          have h_40 : J L M μ_38 := h_26.lex p_39.1
          have q_41 : (μ_38 18 10).toInt = (μ_24 18 10).toInt := congrArg Int32.toInt (congrFun (p_39.1.1 18 (by decide)) (10))
          have q_42 : x_37.toInt = 0 ∨ x_37.toInt = 1 := p_39.2
          refine zH_eqc (rfl : x_37.toInt = _) (iL (0) (0) rfl) (fun c_43e c_43 => ?_) (fun c_43e c_43 => ?_)
          · unfold fX2_readTrack_n108
            have f_46 : (0 : Int) ≤ (μ_38 18 10).toInt ∧ (μ_38 18 10).toInt ≤ 24 := h_40.rd (a := 18) rfl (by decide) 10
            refine zH_lt (fun x_44 e_45 => ?_)
            have q_47 : x_44.toInt = (μ_38 18 10).toInt := (congrArg Int32.toInt e_45).trans (rfl : (μ_38 18 10).toInt = _)
            refine zH_ck (zIn (rfl : x_44.toInt = _) (by omega) (by omega)) ?_
            refine zH_lt (fun μ_48 e_49 => ?_)
            have h_50 : J L M μ_48 := by rw [e_49]; exact J.upf h_40 (a := 28) (k := (1, 24)) rfl (by decide) (by decide) (by decide) (Or.inl (by decide)) rfl
            refine zH_ck (zIn (rfl : x_44.toInt = _) (by omega) (by omega)) ?_
            refine zH_lt (fun μ_51 e_52 => ?_)
            have h_53 : J L M μ_51 := by rw [e_52]; exact J.upf h_50 (a := 29) (k := (1, 24)) rfl (by decide) (by decide) (by decide) (Or.inl (by decide)) rfl
            refine zH_ck (zIn (rfl : x_44.toInt = _) (by omega) (by omega)) ?_
            refine zH_lt (fun μ_54 e_55 => ?_)
            have h_56 : J L M μ_54 := by rw [e_55]; exact J.upf h_53 (a := 30) (k := (1, 24)) rfl (by decide) (by decide) (by decide) (Or.inl (by decide)) rfl
            have q_60 : (x_44 + (1 : Int32)).toInt = (x_44.toInt + (1 : Int)) := (iA (rfl : x_44.toInt = _) (iL (1) (1) rfl) (by omega) (by omega))
            refine zH_lt (fun μ_57 e_58 => ?_)
            have h_59 : J L M μ_57 := by rw [e_58]; exact J.up h_56 (a := 18) (k := (0, 1)) rfl (by decide) (by decide) (by decide) (Or.inl (by decide)) (show (0 : Int) ≤ (x_44 + (1 : Int32)).toInt ∧ (x_44 + (1 : Int32)).toInt ≤ 24 from by have q_61 : (x_44 + (1 : Int32)).toInt = (x_44.toInt + (1 : Int)) := (iA (rfl : x_44.toInt = _) (iL (1) (1) rfl) (by omega) (by omega)); omega)
            refine zH_eqc (iL (-1) (-1) rfl) (iL (-1) (-1) rfl) (fun c_62e c_62 => ?_) (fun c_62e c_62 => ?_)
            · have q_63 : (0 : Int32).toInt = (0 : Int) := (iL (0) (0) rfl)
              exact zH_some ⟨h_59, show (0 : Int32).toInt = 0 ∨ (0 : Int32).toInt = 1 from by have q_64 : ((0 : Int32)).toInt = (0 : Int) := (iL (0) (0) rfl); omega⟩
            · exact zH_some ⟨h_59, show (1 : Int32).toInt = 0 ∨ (1 : Int32).toInt = 1 from by have q_65 : ((1 : Int32)).toInt = (1 : Int) := (iL (1) (1) rfl); omega⟩
          · have q_66 : (254 : Int32).toInt = (254 : Int) := (iL (254) (254) rfl)
            refine zH_bp (tX7_number h_40.hl h_40.jl) (fun x_67 μ_68 p_69 => ?_)
            have h_70 : J L M μ_68 := h_40.lex p_69.1
            have q_71 : (μ_68 18 10).toInt = (μ_38 18 10).toInt := congrArg Int32.toInt (congrFun (p_69.1.1 18 (by decide)) (10))
            have q_72 : x_67.toInt = -1 ∨ ((1 : Int32).toInt ≤ x_67.toInt ∧ x_67.toInt ≤ (254 : Int32).toInt) := p_69.2
            unfold fX2_readTrack_n108
            have f_75 : (0 : Int) ≤ (μ_68 18 10).toInt ∧ (μ_68 18 10).toInt ≤ 24 := h_70.rd (a := 18) rfl (by decide) 10
            refine zH_lt (fun x_73 e_74 => ?_)
            have q_76 : x_73.toInt = (μ_68 18 10).toInt := (congrArg Int32.toInt e_74).trans (rfl : (μ_68 18 10).toInt = _)
            refine zH_ck (zIn (rfl : x_73.toInt = _) (by omega) (by omega)) ?_
            refine zH_lt (fun μ_77 e_78 => ?_)
            have h_79 : J L M μ_77 := by rw [e_78]; exact J.upf h_70 (a := 28) (k := (1, 24)) rfl (by decide) (by decide) (by decide) (Or.inl (by decide)) rfl
            refine zH_ck (zIn (rfl : x_73.toInt = _) (by omega) (by omega)) ?_
            refine zH_lt (fun μ_80 e_81 => ?_)
            have h_82 : J L M μ_80 := by rw [e_81]; exact J.upf h_79 (a := 29) (k := (1, 24)) rfl (by decide) (by decide) (by decide) (Or.inl (by decide)) rfl
            refine zH_ck (zIn (rfl : x_73.toInt = _) (by omega) (by omega)) ?_
            refine zH_lt (fun μ_83 e_84 => ?_)
            have h_85 : J L M μ_83 := by rw [e_84]; exact J.upf h_82 (a := 30) (k := (1, 24)) rfl (by decide) (by decide) (by decide) (Or.inl (by decide)) rfl
            have q_89 : (x_73 + (1 : Int32)).toInt = (x_73.toInt + (1 : Int)) := (iA (rfl : x_73.toInt = _) (iL (1) (1) rfl) (by omega) (by omega))
            refine zH_lt (fun μ_86 e_87 => ?_)
            have h_88 : J L M μ_86 := by rw [e_87]; exact J.up h_85 (a := 18) (k := (0, 1)) rfl (by decide) (by decide) (by decide) (Or.inl (by decide)) (show (0 : Int) ≤ (x_73 + (1 : Int32)).toInt ∧ (x_73 + (1 : Int32)).toInt ≤ 24 from by have q_90 : (x_73 + (1 : Int32)).toInt = (x_73.toInt + (1 : Int)) := (iA (rfl : x_73.toInt = _) (iL (1) (1) rfl) (by omega) (by omega)); omega)
            refine zH_eqc (rfl : x_67.toInt = _) (iL (-1) (-1) rfl) (fun c_91e c_91 => ?_) (fun c_91e c_91 => ?_)
            · have q_92 : (0 : Int32).toInt = (0 : Int) := (iL (0) (0) rfl)
              exact zH_some ⟨h_88, show (0 : Int32).toInt = 0 ∨ (0 : Int32).toInt = 1 from by have q_93 : ((0 : Int32)).toInt = (0 : Int) := (iL (0) (0) rfl); omega⟩
            · exact zH_some ⟨h_88, show (1 : Int32).toInt = 0 ∨ (1 : Int32).toInt = 1 from by have q_94 : ((1 : Int32)).toInt = (1 : Int) := (iL (1) (1) rfl); omega⟩
        · have q_95 : (5 : Int32).toInt = (5 : Int) := (iL (5) (5) rfl)
          refine zH_bp (tX7_refuse h_26.hl h_26.jl) (fun x_96 μ_97 p_98 => ?_)
          have h_99 : J L M μ_97 := h_26.lex p_98.1
          have q_100 : (μ_97 18 10).toInt = (μ_24 18 10).toInt := congrArg Int32.toInt (congrFun (p_98.1.1 18 (by decide)) (10))
          have q_101 : x_96.toInt = 0 := p_98.2
          refine zH_ck (zBo (show (x_96).toInt = 0 ∨ (x_96).toInt = 1 from by have q_102 : (x_96).toInt = x_96.toInt := (rfl : x_96.toInt = _); omega)) ?_
          exact zH_some ⟨h_99, show x_96.toInt = 0 ∨ x_96.toInt = 1 from by have q_103 : (x_96).toInt = x_96.toInt := (rfl : x_96.toInt = _); omega⟩
theorem tX2_readStatement {L : Int32} {M : gM} {a1 : Int32} {μ : gM}  (h : J L M μ)  : zH (fX2_readStatement a1 μ) (fun r => J L M r.2 ∧ (r.1.toInt = 0 ∨ r.1.toInt = 1)) := by
  unfold fX2_readStatement
  refine zH_lt (fun x_1 e_2 => ?_)
  refine zH_bd (tX7_ownWord) (fun x_3 p_4 => ?_)
  have q_5 : (-1 : Int) ≤ x_3.toInt ∧ x_3.toInt ≤ 20 := p_4
  refine zH_eqc (rfl : x_3.toInt = _) (iL (0) (0) rfl) (fun c_6e c_6 => ?_) (fun c_6e c_6 => ?_)
  · unfold fX2_readStatement_n52
    refine zH_lec (iL (60) (60) rfl) (rfl : a1.toInt = _) (fun c_7 => ?_) (fun c_7 => ?_)
    · unfold fX2_readStatement_n66
      have q_8 : (6 : Int32).toInt = (6 : Int) := (iL (6) (6) rfl)
      refine zH_bp (tX7_refuse h.hl h.jl) (fun x_9 μ_10 p_11 => ?_)
      have h_12 : J L M μ_10 := h.lex p_11.1
      have q_13 : (μ_10 18 10).toInt = (μ 18 10).toInt := congrArg Int32.toInt (congrFun (p_11.1.1 18 (by decide)) (10))
      have q_14 : (μ_10 19 2).toInt = (μ 19 2).toInt := congrArg Int32.toInt (congrFun (p_11.1.1 19 (by decide)) (2))
      have q_15 : (μ_10 19 x_3.toNatClampNeg).toInt = (μ 19 x_3.toNatClampNeg).toInt := congrArg Int32.toInt (congrFun (p_11.1.1 19 (by decide)) (x_3.toNatClampNeg))
      have q_16 : x_9.toInt = 0 := p_11.2
      refine zH_ck (zBo (show (x_9).toInt = 0 ∨ (x_9).toInt = 1 from by have q_17 : (x_9).toInt = x_9.toInt := (rfl : x_9.toInt = _); omega)) ?_
      exact zH_some ⟨h_12, show x_9.toInt = 0 ∨ x_9.toInt = 1 from by have q_18 : (x_9).toInt = x_9.toInt := (rfl : x_9.toInt = _); omega⟩
    · refine zH_bd (tX2_isFull h (by omega)) (fun x_19 p_20 => ?_)
      have q_21 : (x_19.toInt = 0 ∨ x_19.toInt = 1) ∧ (x_19.toInt = 0 → (x_3.toInt = 11 → (μ 18 10).toInt < 24) ∧ (x_3.toInt = 2 → (μ 19 2).toInt < 5) ∧ (x_3.toInt ≤ 2 → (μ 19 x_3.toNatClampNeg).toInt < 8 ∧ (x_3.toInt = 0 → (μ 19 x_3.toNatClampNeg).toInt < 6) ∧ (x_3.toInt = 2 → (μ 19 x_3.toNatClampNeg).toInt < 5))) := p_20
      refine zH_eqc (rfl : x_19.toInt = _) (iL (0) (0) rfl) (fun c_22e c_22 => ?_) (fun c_22e c_22 => ?_)
      · refine zH_bd (tX7_advance h.hl h.jl) (fun μ_23 p_24 => ?_)
        have h_25 : J L M μ_23 := h.lex p_24
        have q_26 : (μ_23 18 10).toInt = (μ 18 10).toInt := congrArg Int32.toInt (congrFun (p_24.1 18 (by decide)) (10))
        have q_27 : (μ_23 19 2).toInt = (μ 19 2).toInt := congrArg Int32.toInt (congrFun (p_24.1 19 (by decide)) (2))
        have q_28 : (μ_23 19 x_3.toNatClampNeg).toInt = (μ 19 x_3.toNatClampNeg).toInt := congrArg Int32.toInt (congrFun (p_24.1 19 (by decide)) (x_3.toNatClampNeg))
        refine zH_eqc (rfl : x_3.toInt = _) (iL (2) (2) rfl) (fun c_29e c_29 => ?_) (fun c_29e c_29 => ?_)
        · refine zH_bp (tX2_readGroup h_25 (by omega)) (fun x_30 μ_31 p_32 => ?_)
          have h_33 : J L M μ_31 := p_32.1
          have q_34 : x_30.toInt = 0 ∨ x_30.toInt = 1 := p_32.2
          unfold fX2_readStatement_n154
          refine zH_eqc (rfl : x_30.toInt = _) (iL (0) (0) rfl) (fun c_35e c_35 => ?_) (fun c_35e c_35 => ?_)
          · have q_36 : (0 : Int32).toInt = (0 : Int) := (iL (0) (0) rfl)
            exact zH_some ⟨h_33, show (0 : Int32).toInt = 0 ∨ (0 : Int32).toInt = 1 from by have q_37 : ((0 : Int32)).toInt = (0 : Int) := (iL (0) (0) rfl); omega⟩
          · refine zH_bp (tX7_passStop h_33.hl h_33.jl) (fun x_38 μ_39 p_40 => ?_)
            have h_41 : J L M μ_39 := h_33.lex p_40.1
            have q_42 : (μ_39 18 10).toInt = (μ_31 18 10).toInt := congrArg Int32.toInt (congrFun (p_40.1.1 18 (by decide)) (10))
            have q_43 : (μ_39 19 2).toInt = (μ_31 19 2).toInt := congrArg Int32.toInt (congrFun (p_40.1.1 19 (by decide)) (2))
            have q_44 : (μ_39 19 x_3.toNatClampNeg).toInt = (μ_31 19 x_3.toNatClampNeg).toInt := congrArg Int32.toInt (congrFun (p_40.1.1 19 (by decide)) (x_3.toNatClampNeg))
            have q_45 : x_38.toInt = 0 ∨ x_38.toInt = 1 := p_40.2
            refine zH_eqc (rfl : x_38.toInt = _) (iL (0) (0) rfl) (fun c_46e c_46 => ?_) (fun c_46e c_46 => ?_)
            · have q_47 : (0 : Int32).toInt = (0 : Int) := (iL (0) (0) rfl)
              exact zH_some ⟨h_41, show (0 : Int32).toInt = 0 ∨ (0 : Int32).toInt = 1 from by have q_48 : ((0 : Int32)).toInt = (0 : Int) := (iL (0) (0) rfl); omega⟩
            · have q_49 : (1 : Int32).toInt = (1 : Int) := (iL (1) (1) rfl)
              exact zH_some ⟨h_41, show (1 : Int32).toInt = 0 ∨ (1 : Int32).toInt = 1 from by have q_50 : ((1 : Int32)).toInt = (1 : Int) := (iL (1) (1) rfl); omega⟩
        · refine zH_eqc (rfl : x_3.toInt = _) (iL (7) (7) rfl) (fun c_51e c_51 => ?_) (fun c_51e c_51 => ?_)
          · refine zH_bp (tX2_readMember h_25) (fun x_52 μ_53 p_54 => ?_)
            have h_55 : J L M μ_53 := p_54.1
            have q_56 : x_52.toInt = 0 ∨ x_52.toInt = 1 := p_54.2
            unfold fX2_readStatement_n154
            refine zH_eqc (rfl : x_52.toInt = _) (iL (0) (0) rfl) (fun c_57e c_57 => ?_) (fun c_57e c_57 => ?_)
            · have q_58 : (0 : Int32).toInt = (0 : Int) := (iL (0) (0) rfl)
              exact zH_some ⟨h_55, show (0 : Int32).toInt = 0 ∨ (0 : Int32).toInt = 1 from by have q_59 : ((0 : Int32)).toInt = (0 : Int) := (iL (0) (0) rfl); omega⟩
            · refine zH_bp (tX7_passStop h_55.hl h_55.jl) (fun x_60 μ_61 p_62 => ?_)
              have h_63 : J L M μ_61 := h_55.lex p_62.1
              have q_64 : (μ_61 18 10).toInt = (μ_53 18 10).toInt := congrArg Int32.toInt (congrFun (p_62.1.1 18 (by decide)) (10))
              have q_65 : (μ_61 19 2).toInt = (μ_53 19 2).toInt := congrArg Int32.toInt (congrFun (p_62.1.1 19 (by decide)) (2))
              have q_66 : (μ_61 19 x_3.toNatClampNeg).toInt = (μ_53 19 x_3.toNatClampNeg).toInt := congrArg Int32.toInt (congrFun (p_62.1.1 19 (by decide)) (x_3.toNatClampNeg))
              have q_67 : x_60.toInt = 0 ∨ x_60.toInt = 1 := p_62.2
              refine zH_eqc (rfl : x_60.toInt = _) (iL (0) (0) rfl) (fun c_68e c_68 => ?_) (fun c_68e c_68 => ?_)
              · have q_69 : (0 : Int32).toInt = (0 : Int) := (iL (0) (0) rfl)
                exact zH_some ⟨h_63, show (0 : Int32).toInt = 0 ∨ (0 : Int32).toInt = 1 from by have q_70 : ((0 : Int32)).toInt = (0 : Int) := (iL (0) (0) rfl); omega⟩
              · have q_71 : (1 : Int32).toInt = (1 : Int) := (iL (1) (1) rfl)
                exact zH_some ⟨h_63, show (1 : Int32).toInt = 0 ∨ (1 : Int32).toInt = 1 from by have q_72 : ((1 : Int32)).toInt = (1 : Int) := (iL (1) (1) rfl); omega⟩
          · refine zH_eqc (rfl : x_3.toInt = _) (iL (11) (11) rfl) (fun c_73e c_73 => ?_) (fun c_73e c_73 => ?_)
            · refine zH_bp (tX2_readTrack h_25 (by omega)) (fun x_74 μ_75 p_76 => ?_)
              have h_77 : J L M μ_75 := p_76.1
              have q_78 : x_74.toInt = 0 ∨ x_74.toInt = 1 := p_76.2
              unfold fX2_readStatement_n154
              refine zH_eqc (rfl : x_74.toInt = _) (iL (0) (0) rfl) (fun c_79e c_79 => ?_) (fun c_79e c_79 => ?_)
              · have q_80 : (0 : Int32).toInt = (0 : Int) := (iL (0) (0) rfl)
                exact zH_some ⟨h_77, show (0 : Int32).toInt = 0 ∨ (0 : Int32).toInt = 1 from by have q_81 : ((0 : Int32)).toInt = (0 : Int) := (iL (0) (0) rfl); omega⟩
              · refine zH_bp (tX7_passStop h_77.hl h_77.jl) (fun x_82 μ_83 p_84 => ?_)
                have h_85 : J L M μ_83 := h_77.lex p_84.1
                have q_86 : (μ_83 18 10).toInt = (μ_75 18 10).toInt := congrArg Int32.toInt (congrFun (p_84.1.1 18 (by decide)) (10))
                have q_87 : (μ_83 19 2).toInt = (μ_75 19 2).toInt := congrArg Int32.toInt (congrFun (p_84.1.1 19 (by decide)) (2))
                have q_88 : (μ_83 19 x_3.toNatClampNeg).toInt = (μ_75 19 x_3.toNatClampNeg).toInt := congrArg Int32.toInt (congrFun (p_84.1.1 19 (by decide)) (x_3.toNatClampNeg))
                have q_89 : x_82.toInt = 0 ∨ x_82.toInt = 1 := p_84.2
                refine zH_eqc (rfl : x_82.toInt = _) (iL (0) (0) rfl) (fun c_90e c_90 => ?_) (fun c_90e c_90 => ?_)
                · have q_91 : (0 : Int32).toInt = (0 : Int) := (iL (0) (0) rfl)
                  exact zH_some ⟨h_85, show (0 : Int32).toInt = 0 ∨ (0 : Int32).toInt = 1 from by have q_92 : ((0 : Int32)).toInt = (0 : Int) := (iL (0) (0) rfl); omega⟩
                · have q_93 : (1 : Int32).toInt = (1 : Int) := (iL (1) (1) rfl)
                  exact zH_some ⟨h_85, show (1 : Int32).toInt = 0 ∨ (1 : Int32).toInt = 1 from by have q_94 : ((1 : Int32)).toInt = (1 : Int) := (iL (1) (1) rfl); omega⟩
            · refine zH_bp (tX2_readName h_25 (by omega) (by omega) (by omega) (by omega) (by omega)) (fun x_95 μ_96 p_97 => ?_)
              have h_98 : J L M μ_96 := p_97.1
              have q_99 : x_95.toInt = 0 ∨ x_95.toInt = 1 := p_97.2
              unfold fX2_readStatement_n154
              refine zH_eqc (rfl : x_95.toInt = _) (iL (0) (0) rfl) (fun c_100e c_100 => ?_) (fun c_100e c_100 => ?_)
              · have q_101 : (0 : Int32).toInt = (0 : Int) := (iL (0) (0) rfl)
                exact zH_some ⟨h_98, show (0 : Int32).toInt = 0 ∨ (0 : Int32).toInt = 1 from by have q_102 : ((0 : Int32)).toInt = (0 : Int) := (iL (0) (0) rfl); omega⟩
              · refine zH_bp (tX7_passStop h_98.hl h_98.jl) (fun x_103 μ_104 p_105 => ?_)
                have h_106 : J L M μ_104 := h_98.lex p_105.1
                have q_107 : (μ_104 18 10).toInt = (μ_96 18 10).toInt := congrArg Int32.toInt (congrFun (p_105.1.1 18 (by decide)) (10))
                have q_108 : (μ_104 19 2).toInt = (μ_96 19 2).toInt := congrArg Int32.toInt (congrFun (p_105.1.1 19 (by decide)) (2))
                have q_109 : (μ_104 19 x_3.toNatClampNeg).toInt = (μ_96 19 x_3.toNatClampNeg).toInt := congrArg Int32.toInt (congrFun (p_105.1.1 19 (by decide)) (x_3.toNatClampNeg))
                have q_110 : x_103.toInt = 0 ∨ x_103.toInt = 1 := p_105.2
                refine zH_eqc (rfl : x_103.toInt = _) (iL (0) (0) rfl) (fun c_111e c_111 => ?_) (fun c_111e c_111 => ?_)
                · have q_112 : (0 : Int32).toInt = (0 : Int) := (iL (0) (0) rfl)
                  exact zH_some ⟨h_106, show (0 : Int32).toInt = 0 ∨ (0 : Int32).toInt = 1 from by have q_113 : ((0 : Int32)).toInt = (0 : Int) := (iL (0) (0) rfl); omega⟩
                · have q_114 : (1 : Int32).toInt = (1 : Int) := (iL (1) (1) rfl)
                  exact zH_some ⟨h_106, show (1 : Int32).toInt = 0 ∨ (1 : Int32).toInt = 1 from by have q_115 : ((1 : Int32)).toInt = (1 : Int) := (iL (1) (1) rfl); omega⟩
      · unfold fX2_readStatement_n66
        have q_116 : (6 : Int32).toInt = (6 : Int) := (iL (6) (6) rfl)
        refine zH_bp (tX7_refuse h.hl h.jl) (fun x_117 μ_118 p_119 => ?_)
        have h_120 : J L M μ_118 := h.lex p_119.1
        have q_121 : (μ_118 18 10).toInt = (μ 18 10).toInt := congrArg Int32.toInt (congrFun (p_119.1.1 18 (by decide)) (10))
        have q_122 : (μ_118 19 2).toInt = (μ 19 2).toInt := congrArg Int32.toInt (congrFun (p_119.1.1 19 (by decide)) (2))
        have q_123 : (μ_118 19 x_3.toNatClampNeg).toInt = (μ 19 x_3.toNatClampNeg).toInt := congrArg Int32.toInt (congrFun (p_119.1.1 19 (by decide)) (x_3.toNatClampNeg))
        have q_124 : x_117.toInt = 0 := p_119.2
        refine zH_ck (zBo (show (x_117).toInt = 0 ∨ (x_117).toInt = 1 from by have q_125 : (x_117).toInt = x_117.toInt := (rfl : x_117.toInt = _); omega)) ?_
        exact zH_some ⟨h_120, show x_117.toInt = 0 ∨ x_117.toInt = 1 from by have q_126 : (x_117).toInt = x_117.toInt := (rfl : x_117.toInt = _); omega⟩
  · refine zH_eqc (rfl : x_3.toInt = _) (iL (1) (1) rfl) (fun c_127e c_127 => ?_) (fun c_127e c_127 => ?_)
    · unfold fX2_readStatement_n52
      refine zH_lec (iL (60) (60) rfl) (rfl : a1.toInt = _) (fun c_128 => ?_) (fun c_128 => ?_)
      · unfold fX2_readStatement_n66
        have q_129 : (6 : Int32).toInt = (6 : Int) := (iL (6) (6) rfl)
        refine zH_bp (tX7_refuse h.hl h.jl) (fun x_130 μ_131 p_132 => ?_)
        have h_133 : J L M μ_131 := h.lex p_132.1
        have q_134 : (μ_131 18 10).toInt = (μ 18 10).toInt := congrArg Int32.toInt (congrFun (p_132.1.1 18 (by decide)) (10))
        have q_135 : (μ_131 19 2).toInt = (μ 19 2).toInt := congrArg Int32.toInt (congrFun (p_132.1.1 19 (by decide)) (2))
        have q_136 : (μ_131 19 x_3.toNatClampNeg).toInt = (μ 19 x_3.toNatClampNeg).toInt := congrArg Int32.toInt (congrFun (p_132.1.1 19 (by decide)) (x_3.toNatClampNeg))
        have q_137 : x_130.toInt = 0 := p_132.2
        refine zH_ck (zBo (show (x_130).toInt = 0 ∨ (x_130).toInt = 1 from by have q_138 : (x_130).toInt = x_130.toInt := (rfl : x_130.toInt = _); omega)) ?_
        exact zH_some ⟨h_133, show x_130.toInt = 0 ∨ x_130.toInt = 1 from by have q_139 : (x_130).toInt = x_130.toInt := (rfl : x_130.toInt = _); omega⟩
      · refine zH_bd (tX2_isFull h (by omega)) (fun x_140 p_141 => ?_)
        have q_142 : (x_140.toInt = 0 ∨ x_140.toInt = 1) ∧ (x_140.toInt = 0 → (x_3.toInt = 11 → (μ 18 10).toInt < 24) ∧ (x_3.toInt = 2 → (μ 19 2).toInt < 5) ∧ (x_3.toInt ≤ 2 → (μ 19 x_3.toNatClampNeg).toInt < 8 ∧ (x_3.toInt = 0 → (μ 19 x_3.toNatClampNeg).toInt < 6) ∧ (x_3.toInt = 2 → (μ 19 x_3.toNatClampNeg).toInt < 5))) := p_141
        refine zH_eqc (rfl : x_140.toInt = _) (iL (0) (0) rfl) (fun c_143e c_143 => ?_) (fun c_143e c_143 => ?_)
        · refine zH_bd (tX7_advance h.hl h.jl) (fun μ_144 p_145 => ?_)
          have h_146 : J L M μ_144 := h.lex p_145
          have q_147 : (μ_144 18 10).toInt = (μ 18 10).toInt := congrArg Int32.toInt (congrFun (p_145.1 18 (by decide)) (10))
          have q_148 : (μ_144 19 2).toInt = (μ 19 2).toInt := congrArg Int32.toInt (congrFun (p_145.1 19 (by decide)) (2))
          have q_149 : (μ_144 19 x_3.toNatClampNeg).toInt = (μ 19 x_3.toNatClampNeg).toInt := congrArg Int32.toInt (congrFun (p_145.1 19 (by decide)) (x_3.toNatClampNeg))
          refine zH_eqc (rfl : x_3.toInt = _) (iL (2) (2) rfl) (fun c_150e c_150 => ?_) (fun c_150e c_150 => ?_)
          · refine zH_bp (tX2_readGroup h_146 (by omega)) (fun x_151 μ_152 p_153 => ?_)
            have h_154 : J L M μ_152 := p_153.1
            have q_155 : x_151.toInt = 0 ∨ x_151.toInt = 1 := p_153.2
            unfold fX2_readStatement_n154
            refine zH_eqc (rfl : x_151.toInt = _) (iL (0) (0) rfl) (fun c_156e c_156 => ?_) (fun c_156e c_156 => ?_)
            · have q_157 : (0 : Int32).toInt = (0 : Int) := (iL (0) (0) rfl)
              exact zH_some ⟨h_154, show (0 : Int32).toInt = 0 ∨ (0 : Int32).toInt = 1 from by have q_158 : ((0 : Int32)).toInt = (0 : Int) := (iL (0) (0) rfl); omega⟩
            · refine zH_bp (tX7_passStop h_154.hl h_154.jl) (fun x_159 μ_160 p_161 => ?_)
              have h_162 : J L M μ_160 := h_154.lex p_161.1
              have q_163 : (μ_160 18 10).toInt = (μ_152 18 10).toInt := congrArg Int32.toInt (congrFun (p_161.1.1 18 (by decide)) (10))
              have q_164 : (μ_160 19 2).toInt = (μ_152 19 2).toInt := congrArg Int32.toInt (congrFun (p_161.1.1 19 (by decide)) (2))
              have q_165 : (μ_160 19 x_3.toNatClampNeg).toInt = (μ_152 19 x_3.toNatClampNeg).toInt := congrArg Int32.toInt (congrFun (p_161.1.1 19 (by decide)) (x_3.toNatClampNeg))
              have q_166 : x_159.toInt = 0 ∨ x_159.toInt = 1 := p_161.2
              refine zH_eqc (rfl : x_159.toInt = _) (iL (0) (0) rfl) (fun c_167e c_167 => ?_) (fun c_167e c_167 => ?_)
              · have q_168 : (0 : Int32).toInt = (0 : Int) := (iL (0) (0) rfl)
                exact zH_some ⟨h_162, show (0 : Int32).toInt = 0 ∨ (0 : Int32).toInt = 1 from by have q_169 : ((0 : Int32)).toInt = (0 : Int) := (iL (0) (0) rfl); omega⟩
              · have q_170 : (1 : Int32).toInt = (1 : Int) := (iL (1) (1) rfl)
                exact zH_some ⟨h_162, show (1 : Int32).toInt = 0 ∨ (1 : Int32).toInt = 1 from by have q_171 : ((1 : Int32)).toInt = (1 : Int) := (iL (1) (1) rfl); omega⟩
          · refine zH_eqc (rfl : x_3.toInt = _) (iL (7) (7) rfl) (fun c_172e c_172 => ?_) (fun c_172e c_172 => ?_)
            · refine zH_bp (tX2_readMember h_146) (fun x_173 μ_174 p_175 => ?_)
              have h_176 : J L M μ_174 := p_175.1
              have q_177 : x_173.toInt = 0 ∨ x_173.toInt = 1 := p_175.2
              unfold fX2_readStatement_n154
              refine zH_eqc (rfl : x_173.toInt = _) (iL (0) (0) rfl) (fun c_178e c_178 => ?_) (fun c_178e c_178 => ?_)
              · have q_179 : (0 : Int32).toInt = (0 : Int) := (iL (0) (0) rfl)
                exact zH_some ⟨h_176, show (0 : Int32).toInt = 0 ∨ (0 : Int32).toInt = 1 from by have q_180 : ((0 : Int32)).toInt = (0 : Int) := (iL (0) (0) rfl); omega⟩
              · refine zH_bp (tX7_passStop h_176.hl h_176.jl) (fun x_181 μ_182 p_183 => ?_)
                have h_184 : J L M μ_182 := h_176.lex p_183.1
                have q_185 : (μ_182 18 10).toInt = (μ_174 18 10).toInt := congrArg Int32.toInt (congrFun (p_183.1.1 18 (by decide)) (10))
                have q_186 : (μ_182 19 2).toInt = (μ_174 19 2).toInt := congrArg Int32.toInt (congrFun (p_183.1.1 19 (by decide)) (2))
                have q_187 : (μ_182 19 x_3.toNatClampNeg).toInt = (μ_174 19 x_3.toNatClampNeg).toInt := congrArg Int32.toInt (congrFun (p_183.1.1 19 (by decide)) (x_3.toNatClampNeg))
                have q_188 : x_181.toInt = 0 ∨ x_181.toInt = 1 := p_183.2
                refine zH_eqc (rfl : x_181.toInt = _) (iL (0) (0) rfl) (fun c_189e c_189 => ?_) (fun c_189e c_189 => ?_)
                · have q_190 : (0 : Int32).toInt = (0 : Int) := (iL (0) (0) rfl)
                  exact zH_some ⟨h_184, show (0 : Int32).toInt = 0 ∨ (0 : Int32).toInt = 1 from by have q_191 : ((0 : Int32)).toInt = (0 : Int) := (iL (0) (0) rfl); omega⟩
                · have q_192 : (1 : Int32).toInt = (1 : Int) := (iL (1) (1) rfl)
                  exact zH_some ⟨h_184, show (1 : Int32).toInt = 0 ∨ (1 : Int32).toInt = 1 from by have q_193 : ((1 : Int32)).toInt = (1 : Int) := (iL (1) (1) rfl); omega⟩
            · refine zH_eqc (rfl : x_3.toInt = _) (iL (11) (11) rfl) (fun c_194e c_194 => ?_) (fun c_194e c_194 => ?_)
              · refine zH_bp (tX2_readTrack h_146 (by omega)) (fun x_195 μ_196 p_197 => ?_)
                have h_198 : J L M μ_196 := p_197.1
                have q_199 : x_195.toInt = 0 ∨ x_195.toInt = 1 := p_197.2
                unfold fX2_readStatement_n154
                refine zH_eqc (rfl : x_195.toInt = _) (iL (0) (0) rfl) (fun c_200e c_200 => ?_) (fun c_200e c_200 => ?_)
                · have q_201 : (0 : Int32).toInt = (0 : Int) := (iL (0) (0) rfl)
                  exact zH_some ⟨h_198, show (0 : Int32).toInt = 0 ∨ (0 : Int32).toInt = 1 from by have q_202 : ((0 : Int32)).toInt = (0 : Int) := (iL (0) (0) rfl); omega⟩
                · refine zH_bp (tX7_passStop h_198.hl h_198.jl) (fun x_203 μ_204 p_205 => ?_)
                  have h_206 : J L M μ_204 := h_198.lex p_205.1
                  have q_207 : (μ_204 18 10).toInt = (μ_196 18 10).toInt := congrArg Int32.toInt (congrFun (p_205.1.1 18 (by decide)) (10))
                  have q_208 : (μ_204 19 2).toInt = (μ_196 19 2).toInt := congrArg Int32.toInt (congrFun (p_205.1.1 19 (by decide)) (2))
                  have q_209 : (μ_204 19 x_3.toNatClampNeg).toInt = (μ_196 19 x_3.toNatClampNeg).toInt := congrArg Int32.toInt (congrFun (p_205.1.1 19 (by decide)) (x_3.toNatClampNeg))
                  have q_210 : x_203.toInt = 0 ∨ x_203.toInt = 1 := p_205.2
                  refine zH_eqc (rfl : x_203.toInt = _) (iL (0) (0) rfl) (fun c_211e c_211 => ?_) (fun c_211e c_211 => ?_)
                  · have q_212 : (0 : Int32).toInt = (0 : Int) := (iL (0) (0) rfl)
                    exact zH_some ⟨h_206, show (0 : Int32).toInt = 0 ∨ (0 : Int32).toInt = 1 from by have q_213 : ((0 : Int32)).toInt = (0 : Int) := (iL (0) (0) rfl); omega⟩
                  · have q_214 : (1 : Int32).toInt = (1 : Int) := (iL (1) (1) rfl)
                    exact zH_some ⟨h_206, show (1 : Int32).toInt = 0 ∨ (1 : Int32).toInt = 1 from by have q_215 : ((1 : Int32)).toInt = (1 : Int) := (iL (1) (1) rfl); omega⟩
              · refine zH_bp (tX2_readName h_146 (by omega) (by omega) (by omega) (by omega) (by omega)) (fun x_216 μ_217 p_218 => ?_)
                have h_219 : J L M μ_217 := p_218.1
                have q_220 : x_216.toInt = 0 ∨ x_216.toInt = 1 := p_218.2
                unfold fX2_readStatement_n154
                refine zH_eqc (rfl : x_216.toInt = _) (iL (0) (0) rfl) (fun c_221e c_221 => ?_) (fun c_221e c_221 => ?_)
                · have q_222 : (0 : Int32).toInt = (0 : Int) := (iL (0) (0) rfl)
                  exact zH_some ⟨h_219, show (0 : Int32).toInt = 0 ∨ (0 : Int32).toInt = 1 from by have q_223 : ((0 : Int32)).toInt = (0 : Int) := (iL (0) (0) rfl); omega⟩
                · refine zH_bp (tX7_passStop h_219.hl h_219.jl) (fun x_224 μ_225 p_226 => ?_)
                  have h_227 : J L M μ_225 := h_219.lex p_226.1
                  have q_228 : (μ_225 18 10).toInt = (μ_217 18 10).toInt := congrArg Int32.toInt (congrFun (p_226.1.1 18 (by decide)) (10))
                  have q_229 : (μ_225 19 2).toInt = (μ_217 19 2).toInt := congrArg Int32.toInt (congrFun (p_226.1.1 19 (by decide)) (2))
                  have q_230 : (μ_225 19 x_3.toNatClampNeg).toInt = (μ_217 19 x_3.toNatClampNeg).toInt := congrArg Int32.toInt (congrFun (p_226.1.1 19 (by decide)) (x_3.toNatClampNeg))
                  have q_231 : x_224.toInt = 0 ∨ x_224.toInt = 1 := p_226.2
                  refine zH_eqc (rfl : x_224.toInt = _) (iL (0) (0) rfl) (fun c_232e c_232 => ?_) (fun c_232e c_232 => ?_)
                  · have q_233 : (0 : Int32).toInt = (0 : Int) := (iL (0) (0) rfl)
                    exact zH_some ⟨h_227, show (0 : Int32).toInt = 0 ∨ (0 : Int32).toInt = 1 from by have q_234 : ((0 : Int32)).toInt = (0 : Int) := (iL (0) (0) rfl); omega⟩
                  · have q_235 : (1 : Int32).toInt = (1 : Int) := (iL (1) (1) rfl)
                    exact zH_some ⟨h_227, show (1 : Int32).toInt = 0 ∨ (1 : Int32).toInt = 1 from by have q_236 : ((1 : Int32)).toInt = (1 : Int) := (iL (1) (1) rfl); omega⟩
        · unfold fX2_readStatement_n66
          have q_237 : (6 : Int32).toInt = (6 : Int) := (iL (6) (6) rfl)
          refine zH_bp (tX7_refuse h.hl h.jl) (fun x_238 μ_239 p_240 => ?_)
          have h_241 : J L M μ_239 := h.lex p_240.1
          have q_242 : (μ_239 18 10).toInt = (μ 18 10).toInt := congrArg Int32.toInt (congrFun (p_240.1.1 18 (by decide)) (10))
          have q_243 : (μ_239 19 2).toInt = (μ 19 2).toInt := congrArg Int32.toInt (congrFun (p_240.1.1 19 (by decide)) (2))
          have q_244 : (μ_239 19 x_3.toNatClampNeg).toInt = (μ 19 x_3.toNatClampNeg).toInt := congrArg Int32.toInt (congrFun (p_240.1.1 19 (by decide)) (x_3.toNatClampNeg))
          have q_245 : x_238.toInt = 0 := p_240.2
          refine zH_ck (zBo (show (x_238).toInt = 0 ∨ (x_238).toInt = 1 from by have q_246 : (x_238).toInt = x_238.toInt := (rfl : x_238.toInt = _); omega)) ?_
          exact zH_some ⟨h_241, show x_238.toInt = 0 ∨ x_238.toInt = 1 from by have q_247 : (x_238).toInt = x_238.toInt := (rfl : x_238.toInt = _); omega⟩
    · refine zH_eqc (rfl : x_3.toInt = _) (iL (2) (2) rfl) (fun c_248e c_248 => ?_) (fun c_248e c_248 => ?_)
      · unfold fX2_readStatement_n52
        refine zH_lec (iL (60) (60) rfl) (rfl : a1.toInt = _) (fun c_249 => ?_) (fun c_249 => ?_)
        · unfold fX2_readStatement_n66
          have q_250 : (6 : Int32).toInt = (6 : Int) := (iL (6) (6) rfl)
          refine zH_bp (tX7_refuse h.hl h.jl) (fun x_251 μ_252 p_253 => ?_)
          have h_254 : J L M μ_252 := h.lex p_253.1
          have q_255 : (μ_252 18 10).toInt = (μ 18 10).toInt := congrArg Int32.toInt (congrFun (p_253.1.1 18 (by decide)) (10))
          have q_256 : (μ_252 19 2).toInt = (μ 19 2).toInt := congrArg Int32.toInt (congrFun (p_253.1.1 19 (by decide)) (2))
          have q_257 : (μ_252 19 x_3.toNatClampNeg).toInt = (μ 19 x_3.toNatClampNeg).toInt := congrArg Int32.toInt (congrFun (p_253.1.1 19 (by decide)) (x_3.toNatClampNeg))
          have q_258 : x_251.toInt = 0 := p_253.2
          refine zH_ck (zBo (show (x_251).toInt = 0 ∨ (x_251).toInt = 1 from by have q_259 : (x_251).toInt = x_251.toInt := (rfl : x_251.toInt = _); omega)) ?_
          exact zH_some ⟨h_254, show x_251.toInt = 0 ∨ x_251.toInt = 1 from by have q_260 : (x_251).toInt = x_251.toInt := (rfl : x_251.toInt = _); omega⟩
        · refine zH_bd (tX2_isFull h (by omega)) (fun x_261 p_262 => ?_)
          have q_263 : (x_261.toInt = 0 ∨ x_261.toInt = 1) ∧ (x_261.toInt = 0 → (x_3.toInt = 11 → (μ 18 10).toInt < 24) ∧ (x_3.toInt = 2 → (μ 19 2).toInt < 5) ∧ (x_3.toInt ≤ 2 → (μ 19 x_3.toNatClampNeg).toInt < 8 ∧ (x_3.toInt = 0 → (μ 19 x_3.toNatClampNeg).toInt < 6) ∧ (x_3.toInt = 2 → (μ 19 x_3.toNatClampNeg).toInt < 5))) := p_262
          refine zH_eqc (rfl : x_261.toInt = _) (iL (0) (0) rfl) (fun c_264e c_264 => ?_) (fun c_264e c_264 => ?_)
          · refine zH_bd (tX7_advance h.hl h.jl) (fun μ_265 p_266 => ?_)
            have h_267 : J L M μ_265 := h.lex p_266
            have q_268 : (μ_265 18 10).toInt = (μ 18 10).toInt := congrArg Int32.toInt (congrFun (p_266.1 18 (by decide)) (10))
            have q_269 : (μ_265 19 2).toInt = (μ 19 2).toInt := congrArg Int32.toInt (congrFun (p_266.1 19 (by decide)) (2))
            have q_270 : (μ_265 19 x_3.toNatClampNeg).toInt = (μ 19 x_3.toNatClampNeg).toInt := congrArg Int32.toInt (congrFun (p_266.1 19 (by decide)) (x_3.toNatClampNeg))
            refine zH_eqc (rfl : x_3.toInt = _) (iL (2) (2) rfl) (fun c_271e c_271 => ?_) (fun c_271e c_271 => ?_)
            · refine zH_bp (tX2_readGroup h_267 (by omega)) (fun x_272 μ_273 p_274 => ?_)
              have h_275 : J L M μ_273 := p_274.1
              have q_276 : x_272.toInt = 0 ∨ x_272.toInt = 1 := p_274.2
              unfold fX2_readStatement_n154
              refine zH_eqc (rfl : x_272.toInt = _) (iL (0) (0) rfl) (fun c_277e c_277 => ?_) (fun c_277e c_277 => ?_)
              · have q_278 : (0 : Int32).toInt = (0 : Int) := (iL (0) (0) rfl)
                exact zH_some ⟨h_275, show (0 : Int32).toInt = 0 ∨ (0 : Int32).toInt = 1 from by have q_279 : ((0 : Int32)).toInt = (0 : Int) := (iL (0) (0) rfl); omega⟩
              · refine zH_bp (tX7_passStop h_275.hl h_275.jl) (fun x_280 μ_281 p_282 => ?_)
                have h_283 : J L M μ_281 := h_275.lex p_282.1
                have q_284 : (μ_281 18 10).toInt = (μ_273 18 10).toInt := congrArg Int32.toInt (congrFun (p_282.1.1 18 (by decide)) (10))
                have q_285 : (μ_281 19 2).toInt = (μ_273 19 2).toInt := congrArg Int32.toInt (congrFun (p_282.1.1 19 (by decide)) (2))
                have q_286 : (μ_281 19 x_3.toNatClampNeg).toInt = (μ_273 19 x_3.toNatClampNeg).toInt := congrArg Int32.toInt (congrFun (p_282.1.1 19 (by decide)) (x_3.toNatClampNeg))
                have q_287 : x_280.toInt = 0 ∨ x_280.toInt = 1 := p_282.2
                refine zH_eqc (rfl : x_280.toInt = _) (iL (0) (0) rfl) (fun c_288e c_288 => ?_) (fun c_288e c_288 => ?_)
                · have q_289 : (0 : Int32).toInt = (0 : Int) := (iL (0) (0) rfl)
                  exact zH_some ⟨h_283, show (0 : Int32).toInt = 0 ∨ (0 : Int32).toInt = 1 from by have q_290 : ((0 : Int32)).toInt = (0 : Int) := (iL (0) (0) rfl); omega⟩
                · have q_291 : (1 : Int32).toInt = (1 : Int) := (iL (1) (1) rfl)
                  exact zH_some ⟨h_283, show (1 : Int32).toInt = 0 ∨ (1 : Int32).toInt = 1 from by have q_292 : ((1 : Int32)).toInt = (1 : Int) := (iL (1) (1) rfl); omega⟩
            · refine zH_eqc (rfl : x_3.toInt = _) (iL (7) (7) rfl) (fun c_293e c_293 => ?_) (fun c_293e c_293 => ?_)
              · refine zH_bp (tX2_readMember h_267) (fun x_294 μ_295 p_296 => ?_)
                have h_297 : J L M μ_295 := p_296.1
                have q_298 : x_294.toInt = 0 ∨ x_294.toInt = 1 := p_296.2
                unfold fX2_readStatement_n154
                refine zH_eqc (rfl : x_294.toInt = _) (iL (0) (0) rfl) (fun c_299e c_299 => ?_) (fun c_299e c_299 => ?_)
                · have q_300 : (0 : Int32).toInt = (0 : Int) := (iL (0) (0) rfl)
                  exact zH_some ⟨h_297, show (0 : Int32).toInt = 0 ∨ (0 : Int32).toInt = 1 from by have q_301 : ((0 : Int32)).toInt = (0 : Int) := (iL (0) (0) rfl); omega⟩
                · refine zH_bp (tX7_passStop h_297.hl h_297.jl) (fun x_302 μ_303 p_304 => ?_)
                  have h_305 : J L M μ_303 := h_297.lex p_304.1
                  have q_306 : (μ_303 18 10).toInt = (μ_295 18 10).toInt := congrArg Int32.toInt (congrFun (p_304.1.1 18 (by decide)) (10))
                  have q_307 : (μ_303 19 2).toInt = (μ_295 19 2).toInt := congrArg Int32.toInt (congrFun (p_304.1.1 19 (by decide)) (2))
                  have q_308 : (μ_303 19 x_3.toNatClampNeg).toInt = (μ_295 19 x_3.toNatClampNeg).toInt := congrArg Int32.toInt (congrFun (p_304.1.1 19 (by decide)) (x_3.toNatClampNeg))
                  have q_309 : x_302.toInt = 0 ∨ x_302.toInt = 1 := p_304.2
                  refine zH_eqc (rfl : x_302.toInt = _) (iL (0) (0) rfl) (fun c_310e c_310 => ?_) (fun c_310e c_310 => ?_)
                  · have q_311 : (0 : Int32).toInt = (0 : Int) := (iL (0) (0) rfl)
                    exact zH_some ⟨h_305, show (0 : Int32).toInt = 0 ∨ (0 : Int32).toInt = 1 from by have q_312 : ((0 : Int32)).toInt = (0 : Int) := (iL (0) (0) rfl); omega⟩
                  · have q_313 : (1 : Int32).toInt = (1 : Int) := (iL (1) (1) rfl)
                    exact zH_some ⟨h_305, show (1 : Int32).toInt = 0 ∨ (1 : Int32).toInt = 1 from by have q_314 : ((1 : Int32)).toInt = (1 : Int) := (iL (1) (1) rfl); omega⟩
              · refine zH_eqc (rfl : x_3.toInt = _) (iL (11) (11) rfl) (fun c_315e c_315 => ?_) (fun c_315e c_315 => ?_)
                · refine zH_bp (tX2_readTrack h_267 (by omega)) (fun x_316 μ_317 p_318 => ?_)
                  have h_319 : J L M μ_317 := p_318.1
                  have q_320 : x_316.toInt = 0 ∨ x_316.toInt = 1 := p_318.2
                  unfold fX2_readStatement_n154
                  refine zH_eqc (rfl : x_316.toInt = _) (iL (0) (0) rfl) (fun c_321e c_321 => ?_) (fun c_321e c_321 => ?_)
                  · have q_322 : (0 : Int32).toInt = (0 : Int) := (iL (0) (0) rfl)
                    exact zH_some ⟨h_319, show (0 : Int32).toInt = 0 ∨ (0 : Int32).toInt = 1 from by have q_323 : ((0 : Int32)).toInt = (0 : Int) := (iL (0) (0) rfl); omega⟩
                  · refine zH_bp (tX7_passStop h_319.hl h_319.jl) (fun x_324 μ_325 p_326 => ?_)
                    have h_327 : J L M μ_325 := h_319.lex p_326.1
                    have q_328 : (μ_325 18 10).toInt = (μ_317 18 10).toInt := congrArg Int32.toInt (congrFun (p_326.1.1 18 (by decide)) (10))
                    have q_329 : (μ_325 19 2).toInt = (μ_317 19 2).toInt := congrArg Int32.toInt (congrFun (p_326.1.1 19 (by decide)) (2))
                    have q_330 : (μ_325 19 x_3.toNatClampNeg).toInt = (μ_317 19 x_3.toNatClampNeg).toInt := congrArg Int32.toInt (congrFun (p_326.1.1 19 (by decide)) (x_3.toNatClampNeg))
                    have q_331 : x_324.toInt = 0 ∨ x_324.toInt = 1 := p_326.2
                    refine zH_eqc (rfl : x_324.toInt = _) (iL (0) (0) rfl) (fun c_332e c_332 => ?_) (fun c_332e c_332 => ?_)
                    · have q_333 : (0 : Int32).toInt = (0 : Int) := (iL (0) (0) rfl)
                      exact zH_some ⟨h_327, show (0 : Int32).toInt = 0 ∨ (0 : Int32).toInt = 1 from by have q_334 : ((0 : Int32)).toInt = (0 : Int) := (iL (0) (0) rfl); omega⟩
                    · have q_335 : (1 : Int32).toInt = (1 : Int) := (iL (1) (1) rfl)
                      exact zH_some ⟨h_327, show (1 : Int32).toInt = 0 ∨ (1 : Int32).toInt = 1 from by have q_336 : ((1 : Int32)).toInt = (1 : Int) := (iL (1) (1) rfl); omega⟩
                · refine zH_bp (tX2_readName h_267 (by omega) (by omega) (by omega) (by omega) (by omega)) (fun x_337 μ_338 p_339 => ?_)
                  have h_340 : J L M μ_338 := p_339.1
                  have q_341 : x_337.toInt = 0 ∨ x_337.toInt = 1 := p_339.2
                  unfold fX2_readStatement_n154
                  refine zH_eqc (rfl : x_337.toInt = _) (iL (0) (0) rfl) (fun c_342e c_342 => ?_) (fun c_342e c_342 => ?_)
                  · have q_343 : (0 : Int32).toInt = (0 : Int) := (iL (0) (0) rfl)
                    exact zH_some ⟨h_340, show (0 : Int32).toInt = 0 ∨ (0 : Int32).toInt = 1 from by have q_344 : ((0 : Int32)).toInt = (0 : Int) := (iL (0) (0) rfl); omega⟩
                  · refine zH_bp (tX7_passStop h_340.hl h_340.jl) (fun x_345 μ_346 p_347 => ?_)
                    have h_348 : J L M μ_346 := h_340.lex p_347.1
                    have q_349 : (μ_346 18 10).toInt = (μ_338 18 10).toInt := congrArg Int32.toInt (congrFun (p_347.1.1 18 (by decide)) (10))
                    have q_350 : (μ_346 19 2).toInt = (μ_338 19 2).toInt := congrArg Int32.toInt (congrFun (p_347.1.1 19 (by decide)) (2))
                    have q_351 : (μ_346 19 x_3.toNatClampNeg).toInt = (μ_338 19 x_3.toNatClampNeg).toInt := congrArg Int32.toInt (congrFun (p_347.1.1 19 (by decide)) (x_3.toNatClampNeg))
                    have q_352 : x_345.toInt = 0 ∨ x_345.toInt = 1 := p_347.2
                    refine zH_eqc (rfl : x_345.toInt = _) (iL (0) (0) rfl) (fun c_353e c_353 => ?_) (fun c_353e c_353 => ?_)
                    · have q_354 : (0 : Int32).toInt = (0 : Int) := (iL (0) (0) rfl)
                      exact zH_some ⟨h_348, show (0 : Int32).toInt = 0 ∨ (0 : Int32).toInt = 1 from by have q_355 : ((0 : Int32)).toInt = (0 : Int) := (iL (0) (0) rfl); omega⟩
                    · have q_356 : (1 : Int32).toInt = (1 : Int) := (iL (1) (1) rfl)
                      exact zH_some ⟨h_348, show (1 : Int32).toInt = 0 ∨ (1 : Int32).toInt = 1 from by have q_357 : ((1 : Int32)).toInt = (1 : Int) := (iL (1) (1) rfl); omega⟩
          · unfold fX2_readStatement_n66
            have q_358 : (6 : Int32).toInt = (6 : Int) := (iL (6) (6) rfl)
            refine zH_bp (tX7_refuse h.hl h.jl) (fun x_359 μ_360 p_361 => ?_)
            have h_362 : J L M μ_360 := h.lex p_361.1
            have q_363 : (μ_360 18 10).toInt = (μ 18 10).toInt := congrArg Int32.toInt (congrFun (p_361.1.1 18 (by decide)) (10))
            have q_364 : (μ_360 19 2).toInt = (μ 19 2).toInt := congrArg Int32.toInt (congrFun (p_361.1.1 19 (by decide)) (2))
            have q_365 : (μ_360 19 x_3.toNatClampNeg).toInt = (μ 19 x_3.toNatClampNeg).toInt := congrArg Int32.toInt (congrFun (p_361.1.1 19 (by decide)) (x_3.toNatClampNeg))
            have q_366 : x_359.toInt = 0 := p_361.2
            refine zH_ck (zBo (show (x_359).toInt = 0 ∨ (x_359).toInt = 1 from by have q_367 : (x_359).toInt = x_359.toInt := (rfl : x_359.toInt = _); omega)) ?_
            exact zH_some ⟨h_362, show x_359.toInt = 0 ∨ x_359.toInt = 1 from by have q_368 : (x_359).toInt = x_359.toInt := (rfl : x_359.toInt = _); omega⟩
      · refine zH_eqc (rfl : x_3.toInt = _) (iL (7) (7) rfl) (fun c_369e c_369 => ?_) (fun c_369e c_369 => ?_)
        · unfold fX2_readStatement_n52
          refine zH_lec (iL (60) (60) rfl) (rfl : a1.toInt = _) (fun c_370 => ?_) (fun c_370 => ?_)
          · unfold fX2_readStatement_n66
            have q_371 : (6 : Int32).toInt = (6 : Int) := (iL (6) (6) rfl)
            refine zH_bp (tX7_refuse h.hl h.jl) (fun x_372 μ_373 p_374 => ?_)
            have h_375 : J L M μ_373 := h.lex p_374.1
            have q_376 : (μ_373 18 10).toInt = (μ 18 10).toInt := congrArg Int32.toInt (congrFun (p_374.1.1 18 (by decide)) (10))
            have q_377 : (μ_373 19 2).toInt = (μ 19 2).toInt := congrArg Int32.toInt (congrFun (p_374.1.1 19 (by decide)) (2))
            have q_378 : (μ_373 19 x_3.toNatClampNeg).toInt = (μ 19 x_3.toNatClampNeg).toInt := congrArg Int32.toInt (congrFun (p_374.1.1 19 (by decide)) (x_3.toNatClampNeg))
            have q_379 : x_372.toInt = 0 := p_374.2
            refine zH_ck (zBo (show (x_372).toInt = 0 ∨ (x_372).toInt = 1 from by have q_380 : (x_372).toInt = x_372.toInt := (rfl : x_372.toInt = _); omega)) ?_
            exact zH_some ⟨h_375, show x_372.toInt = 0 ∨ x_372.toInt = 1 from by have q_381 : (x_372).toInt = x_372.toInt := (rfl : x_372.toInt = _); omega⟩
          · refine zH_bd (tX2_isFull h (by omega)) (fun x_382 p_383 => ?_)
            have q_384 : (x_382.toInt = 0 ∨ x_382.toInt = 1) ∧ (x_382.toInt = 0 → (x_3.toInt = 11 → (μ 18 10).toInt < 24) ∧ (x_3.toInt = 2 → (μ 19 2).toInt < 5) ∧ (x_3.toInt ≤ 2 → (μ 19 x_3.toNatClampNeg).toInt < 8 ∧ (x_3.toInt = 0 → (μ 19 x_3.toNatClampNeg).toInt < 6) ∧ (x_3.toInt = 2 → (μ 19 x_3.toNatClampNeg).toInt < 5))) := p_383
            refine zH_eqc (rfl : x_382.toInt = _) (iL (0) (0) rfl) (fun c_385e c_385 => ?_) (fun c_385e c_385 => ?_)
            · refine zH_bd (tX7_advance h.hl h.jl) (fun μ_386 p_387 => ?_)
              have h_388 : J L M μ_386 := h.lex p_387
              have q_389 : (μ_386 18 10).toInt = (μ 18 10).toInt := congrArg Int32.toInt (congrFun (p_387.1 18 (by decide)) (10))
              have q_390 : (μ_386 19 2).toInt = (μ 19 2).toInt := congrArg Int32.toInt (congrFun (p_387.1 19 (by decide)) (2))
              have q_391 : (μ_386 19 x_3.toNatClampNeg).toInt = (μ 19 x_3.toNatClampNeg).toInt := congrArg Int32.toInt (congrFun (p_387.1 19 (by decide)) (x_3.toNatClampNeg))
              refine zH_eqc (rfl : x_3.toInt = _) (iL (2) (2) rfl) (fun c_392e c_392 => ?_) (fun c_392e c_392 => ?_)
              · refine zH_bp (tX2_readGroup h_388 (by omega)) (fun x_393 μ_394 p_395 => ?_)
                have h_396 : J L M μ_394 := p_395.1
                have q_397 : x_393.toInt = 0 ∨ x_393.toInt = 1 := p_395.2
                unfold fX2_readStatement_n154
                refine zH_eqc (rfl : x_393.toInt = _) (iL (0) (0) rfl) (fun c_398e c_398 => ?_) (fun c_398e c_398 => ?_)
                · have q_399 : (0 : Int32).toInt = (0 : Int) := (iL (0) (0) rfl)
                  exact zH_some ⟨h_396, show (0 : Int32).toInt = 0 ∨ (0 : Int32).toInt = 1 from by have q_400 : ((0 : Int32)).toInt = (0 : Int) := (iL (0) (0) rfl); omega⟩
                · refine zH_bp (tX7_passStop h_396.hl h_396.jl) (fun x_401 μ_402 p_403 => ?_)
                  have h_404 : J L M μ_402 := h_396.lex p_403.1
                  have q_405 : (μ_402 18 10).toInt = (μ_394 18 10).toInt := congrArg Int32.toInt (congrFun (p_403.1.1 18 (by decide)) (10))
                  have q_406 : (μ_402 19 2).toInt = (μ_394 19 2).toInt := congrArg Int32.toInt (congrFun (p_403.1.1 19 (by decide)) (2))
                  have q_407 : (μ_402 19 x_3.toNatClampNeg).toInt = (μ_394 19 x_3.toNatClampNeg).toInt := congrArg Int32.toInt (congrFun (p_403.1.1 19 (by decide)) (x_3.toNatClampNeg))
                  have q_408 : x_401.toInt = 0 ∨ x_401.toInt = 1 := p_403.2
                  refine zH_eqc (rfl : x_401.toInt = _) (iL (0) (0) rfl) (fun c_409e c_409 => ?_) (fun c_409e c_409 => ?_)
                  · have q_410 : (0 : Int32).toInt = (0 : Int) := (iL (0) (0) rfl)
                    exact zH_some ⟨h_404, show (0 : Int32).toInt = 0 ∨ (0 : Int32).toInt = 1 from by have q_411 : ((0 : Int32)).toInt = (0 : Int) := (iL (0) (0) rfl); omega⟩
                  · have q_412 : (1 : Int32).toInt = (1 : Int) := (iL (1) (1) rfl)
                    exact zH_some ⟨h_404, show (1 : Int32).toInt = 0 ∨ (1 : Int32).toInt = 1 from by have q_413 : ((1 : Int32)).toInt = (1 : Int) := (iL (1) (1) rfl); omega⟩
              · refine zH_eqc (rfl : x_3.toInt = _) (iL (7) (7) rfl) (fun c_414e c_414 => ?_) (fun c_414e c_414 => ?_)
                · refine zH_bp (tX2_readMember h_388) (fun x_415 μ_416 p_417 => ?_)
                  have h_418 : J L M μ_416 := p_417.1
                  have q_419 : x_415.toInt = 0 ∨ x_415.toInt = 1 := p_417.2
                  unfold fX2_readStatement_n154
                  refine zH_eqc (rfl : x_415.toInt = _) (iL (0) (0) rfl) (fun c_420e c_420 => ?_) (fun c_420e c_420 => ?_)
                  · have q_421 : (0 : Int32).toInt = (0 : Int) := (iL (0) (0) rfl)
                    exact zH_some ⟨h_418, show (0 : Int32).toInt = 0 ∨ (0 : Int32).toInt = 1 from by have q_422 : ((0 : Int32)).toInt = (0 : Int) := (iL (0) (0) rfl); omega⟩
                  · refine zH_bp (tX7_passStop h_418.hl h_418.jl) (fun x_423 μ_424 p_425 => ?_)
                    have h_426 : J L M μ_424 := h_418.lex p_425.1
                    have q_427 : (μ_424 18 10).toInt = (μ_416 18 10).toInt := congrArg Int32.toInt (congrFun (p_425.1.1 18 (by decide)) (10))
                    have q_428 : (μ_424 19 2).toInt = (μ_416 19 2).toInt := congrArg Int32.toInt (congrFun (p_425.1.1 19 (by decide)) (2))
                    have q_429 : (μ_424 19 x_3.toNatClampNeg).toInt = (μ_416 19 x_3.toNatClampNeg).toInt := congrArg Int32.toInt (congrFun (p_425.1.1 19 (by decide)) (x_3.toNatClampNeg))
                    have q_430 : x_423.toInt = 0 ∨ x_423.toInt = 1 := p_425.2
                    refine zH_eqc (rfl : x_423.toInt = _) (iL (0) (0) rfl) (fun c_431e c_431 => ?_) (fun c_431e c_431 => ?_)
                    · have q_432 : (0 : Int32).toInt = (0 : Int) := (iL (0) (0) rfl)
                      exact zH_some ⟨h_426, show (0 : Int32).toInt = 0 ∨ (0 : Int32).toInt = 1 from by have q_433 : ((0 : Int32)).toInt = (0 : Int) := (iL (0) (0) rfl); omega⟩
                    · have q_434 : (1 : Int32).toInt = (1 : Int) := (iL (1) (1) rfl)
                      exact zH_some ⟨h_426, show (1 : Int32).toInt = 0 ∨ (1 : Int32).toInt = 1 from by have q_435 : ((1 : Int32)).toInt = (1 : Int) := (iL (1) (1) rfl); omega⟩
                · refine zH_eqc (rfl : x_3.toInt = _) (iL (11) (11) rfl) (fun c_436e c_436 => ?_) (fun c_436e c_436 => ?_)
                  · refine zH_bp (tX2_readTrack h_388 (by omega)) (fun x_437 μ_438 p_439 => ?_)
                    have h_440 : J L M μ_438 := p_439.1
                    have q_441 : x_437.toInt = 0 ∨ x_437.toInt = 1 := p_439.2
                    unfold fX2_readStatement_n154
                    refine zH_eqc (rfl : x_437.toInt = _) (iL (0) (0) rfl) (fun c_442e c_442 => ?_) (fun c_442e c_442 => ?_)
                    · have q_443 : (0 : Int32).toInt = (0 : Int) := (iL (0) (0) rfl)
                      exact zH_some ⟨h_440, show (0 : Int32).toInt = 0 ∨ (0 : Int32).toInt = 1 from by have q_444 : ((0 : Int32)).toInt = (0 : Int) := (iL (0) (0) rfl); omega⟩
                    · refine zH_bp (tX7_passStop h_440.hl h_440.jl) (fun x_445 μ_446 p_447 => ?_)
                      have h_448 : J L M μ_446 := h_440.lex p_447.1
                      have q_449 : (μ_446 18 10).toInt = (μ_438 18 10).toInt := congrArg Int32.toInt (congrFun (p_447.1.1 18 (by decide)) (10))
                      have q_450 : (μ_446 19 2).toInt = (μ_438 19 2).toInt := congrArg Int32.toInt (congrFun (p_447.1.1 19 (by decide)) (2))
                      have q_451 : (μ_446 19 x_3.toNatClampNeg).toInt = (μ_438 19 x_3.toNatClampNeg).toInt := congrArg Int32.toInt (congrFun (p_447.1.1 19 (by decide)) (x_3.toNatClampNeg))
                      have q_452 : x_445.toInt = 0 ∨ x_445.toInt = 1 := p_447.2
                      refine zH_eqc (rfl : x_445.toInt = _) (iL (0) (0) rfl) (fun c_453e c_453 => ?_) (fun c_453e c_453 => ?_)
                      · have q_454 : (0 : Int32).toInt = (0 : Int) := (iL (0) (0) rfl)
                        exact zH_some ⟨h_448, show (0 : Int32).toInt = 0 ∨ (0 : Int32).toInt = 1 from by have q_455 : ((0 : Int32)).toInt = (0 : Int) := (iL (0) (0) rfl); omega⟩
                      · have q_456 : (1 : Int32).toInt = (1 : Int) := (iL (1) (1) rfl)
                        exact zH_some ⟨h_448, show (1 : Int32).toInt = 0 ∨ (1 : Int32).toInt = 1 from by have q_457 : ((1 : Int32)).toInt = (1 : Int) := (iL (1) (1) rfl); omega⟩
                  · refine zH_bp (tX2_readName h_388 (by omega) (by omega) (by omega) (by omega) (by omega)) (fun x_458 μ_459 p_460 => ?_)
                    have h_461 : J L M μ_459 := p_460.1
                    have q_462 : x_458.toInt = 0 ∨ x_458.toInt = 1 := p_460.2
                    unfold fX2_readStatement_n154
                    refine zH_eqc (rfl : x_458.toInt = _) (iL (0) (0) rfl) (fun c_463e c_463 => ?_) (fun c_463e c_463 => ?_)
                    · have q_464 : (0 : Int32).toInt = (0 : Int) := (iL (0) (0) rfl)
                      exact zH_some ⟨h_461, show (0 : Int32).toInt = 0 ∨ (0 : Int32).toInt = 1 from by have q_465 : ((0 : Int32)).toInt = (0 : Int) := (iL (0) (0) rfl); omega⟩
                    · refine zH_bp (tX7_passStop h_461.hl h_461.jl) (fun x_466 μ_467 p_468 => ?_)
                      have h_469 : J L M μ_467 := h_461.lex p_468.1
                      have q_470 : (μ_467 18 10).toInt = (μ_459 18 10).toInt := congrArg Int32.toInt (congrFun (p_468.1.1 18 (by decide)) (10))
                      have q_471 : (μ_467 19 2).toInt = (μ_459 19 2).toInt := congrArg Int32.toInt (congrFun (p_468.1.1 19 (by decide)) (2))
                      have q_472 : (μ_467 19 x_3.toNatClampNeg).toInt = (μ_459 19 x_3.toNatClampNeg).toInt := congrArg Int32.toInt (congrFun (p_468.1.1 19 (by decide)) (x_3.toNatClampNeg))
                      have q_473 : x_466.toInt = 0 ∨ x_466.toInt = 1 := p_468.2
                      refine zH_eqc (rfl : x_466.toInt = _) (iL (0) (0) rfl) (fun c_474e c_474 => ?_) (fun c_474e c_474 => ?_)
                      · have q_475 : (0 : Int32).toInt = (0 : Int) := (iL (0) (0) rfl)
                        exact zH_some ⟨h_469, show (0 : Int32).toInt = 0 ∨ (0 : Int32).toInt = 1 from by have q_476 : ((0 : Int32)).toInt = (0 : Int) := (iL (0) (0) rfl); omega⟩
                      · have q_477 : (1 : Int32).toInt = (1 : Int) := (iL (1) (1) rfl)
                        exact zH_some ⟨h_469, show (1 : Int32).toInt = 0 ∨ (1 : Int32).toInt = 1 from by have q_478 : ((1 : Int32)).toInt = (1 : Int) := (iL (1) (1) rfl); omega⟩
            · unfold fX2_readStatement_n66
              have q_479 : (6 : Int32).toInt = (6 : Int) := (iL (6) (6) rfl)
              refine zH_bp (tX7_refuse h.hl h.jl) (fun x_480 μ_481 p_482 => ?_)
              have h_483 : J L M μ_481 := h.lex p_482.1
              have q_484 : (μ_481 18 10).toInt = (μ 18 10).toInt := congrArg Int32.toInt (congrFun (p_482.1.1 18 (by decide)) (10))
              have q_485 : (μ_481 19 2).toInt = (μ 19 2).toInt := congrArg Int32.toInt (congrFun (p_482.1.1 19 (by decide)) (2))
              have q_486 : (μ_481 19 x_3.toNatClampNeg).toInt = (μ 19 x_3.toNatClampNeg).toInt := congrArg Int32.toInt (congrFun (p_482.1.1 19 (by decide)) (x_3.toNatClampNeg))
              have q_487 : x_480.toInt = 0 := p_482.2
              refine zH_ck (zBo (show (x_480).toInt = 0 ∨ (x_480).toInt = 1 from by have q_488 : (x_480).toInt = x_480.toInt := (rfl : x_480.toInt = _); omega)) ?_
              exact zH_some ⟨h_483, show x_480.toInt = 0 ∨ x_480.toInt = 1 from by have q_489 : (x_480).toInt = x_480.toInt := (rfl : x_480.toInt = _); omega⟩
        · refine zH_eqc (rfl : x_3.toInt = _) (iL (11) (11) rfl) (fun c_490e c_490 => ?_) (fun c_490e c_490 => ?_)
          · unfold fX2_readStatement_n52
            refine zH_lec (iL (60) (60) rfl) (rfl : a1.toInt = _) (fun c_491 => ?_) (fun c_491 => ?_)
            · unfold fX2_readStatement_n66
              have q_492 : (6 : Int32).toInt = (6 : Int) := (iL (6) (6) rfl)
              refine zH_bp (tX7_refuse h.hl h.jl) (fun x_493 μ_494 p_495 => ?_)
              have h_496 : J L M μ_494 := h.lex p_495.1
              have q_497 : (μ_494 18 10).toInt = (μ 18 10).toInt := congrArg Int32.toInt (congrFun (p_495.1.1 18 (by decide)) (10))
              have q_498 : (μ_494 19 2).toInt = (μ 19 2).toInt := congrArg Int32.toInt (congrFun (p_495.1.1 19 (by decide)) (2))
              have q_499 : (μ_494 19 x_3.toNatClampNeg).toInt = (μ 19 x_3.toNatClampNeg).toInt := congrArg Int32.toInt (congrFun (p_495.1.1 19 (by decide)) (x_3.toNatClampNeg))
              have q_500 : x_493.toInt = 0 := p_495.2
              refine zH_ck (zBo (show (x_493).toInt = 0 ∨ (x_493).toInt = 1 from by have q_501 : (x_493).toInt = x_493.toInt := (rfl : x_493.toInt = _); omega)) ?_
              exact zH_some ⟨h_496, show x_493.toInt = 0 ∨ x_493.toInt = 1 from by have q_502 : (x_493).toInt = x_493.toInt := (rfl : x_493.toInt = _); omega⟩
            · refine zH_bd (tX2_isFull h (by omega)) (fun x_503 p_504 => ?_)
              have q_505 : (x_503.toInt = 0 ∨ x_503.toInt = 1) ∧ (x_503.toInt = 0 → (x_3.toInt = 11 → (μ 18 10).toInt < 24) ∧ (x_3.toInt = 2 → (μ 19 2).toInt < 5) ∧ (x_3.toInt ≤ 2 → (μ 19 x_3.toNatClampNeg).toInt < 8 ∧ (x_3.toInt = 0 → (μ 19 x_3.toNatClampNeg).toInt < 6) ∧ (x_3.toInt = 2 → (μ 19 x_3.toNatClampNeg).toInt < 5))) := p_504
              refine zH_eqc (rfl : x_503.toInt = _) (iL (0) (0) rfl) (fun c_506e c_506 => ?_) (fun c_506e c_506 => ?_)
              · refine zH_bd (tX7_advance h.hl h.jl) (fun μ_507 p_508 => ?_)
                have h_509 : J L M μ_507 := h.lex p_508
                have q_510 : (μ_507 18 10).toInt = (μ 18 10).toInt := congrArg Int32.toInt (congrFun (p_508.1 18 (by decide)) (10))
                have q_511 : (μ_507 19 2).toInt = (μ 19 2).toInt := congrArg Int32.toInt (congrFun (p_508.1 19 (by decide)) (2))
                have q_512 : (μ_507 19 x_3.toNatClampNeg).toInt = (μ 19 x_3.toNatClampNeg).toInt := congrArg Int32.toInt (congrFun (p_508.1 19 (by decide)) (x_3.toNatClampNeg))
                refine zH_eqc (rfl : x_3.toInt = _) (iL (2) (2) rfl) (fun c_513e c_513 => ?_) (fun c_513e c_513 => ?_)
                · refine zH_bp (tX2_readGroup h_509 (by omega)) (fun x_514 μ_515 p_516 => ?_)
                  have h_517 : J L M μ_515 := p_516.1
                  have q_518 : x_514.toInt = 0 ∨ x_514.toInt = 1 := p_516.2
                  unfold fX2_readStatement_n154
                  refine zH_eqc (rfl : x_514.toInt = _) (iL (0) (0) rfl) (fun c_519e c_519 => ?_) (fun c_519e c_519 => ?_)
                  · have q_520 : (0 : Int32).toInt = (0 : Int) := (iL (0) (0) rfl)
                    exact zH_some ⟨h_517, show (0 : Int32).toInt = 0 ∨ (0 : Int32).toInt = 1 from by have q_521 : ((0 : Int32)).toInt = (0 : Int) := (iL (0) (0) rfl); omega⟩
                  · refine zH_bp (tX7_passStop h_517.hl h_517.jl) (fun x_522 μ_523 p_524 => ?_)
                    have h_525 : J L M μ_523 := h_517.lex p_524.1
                    have q_526 : (μ_523 18 10).toInt = (μ_515 18 10).toInt := congrArg Int32.toInt (congrFun (p_524.1.1 18 (by decide)) (10))
                    have q_527 : (μ_523 19 2).toInt = (μ_515 19 2).toInt := congrArg Int32.toInt (congrFun (p_524.1.1 19 (by decide)) (2))
                    have q_528 : (μ_523 19 x_3.toNatClampNeg).toInt = (μ_515 19 x_3.toNatClampNeg).toInt := congrArg Int32.toInt (congrFun (p_524.1.1 19 (by decide)) (x_3.toNatClampNeg))
                    have q_529 : x_522.toInt = 0 ∨ x_522.toInt = 1 := p_524.2
                    refine zH_eqc (rfl : x_522.toInt = _) (iL (0) (0) rfl) (fun c_530e c_530 => ?_) (fun c_530e c_530 => ?_)
                    · have q_531 : (0 : Int32).toInt = (0 : Int) := (iL (0) (0) rfl)
                      exact zH_some ⟨h_525, show (0 : Int32).toInt = 0 ∨ (0 : Int32).toInt = 1 from by have q_532 : ((0 : Int32)).toInt = (0 : Int) := (iL (0) (0) rfl); omega⟩
                    · have q_533 : (1 : Int32).toInt = (1 : Int) := (iL (1) (1) rfl)
                      exact zH_some ⟨h_525, show (1 : Int32).toInt = 0 ∨ (1 : Int32).toInt = 1 from by have q_534 : ((1 : Int32)).toInt = (1 : Int) := (iL (1) (1) rfl); omega⟩
                · refine zH_eqc (rfl : x_3.toInt = _) (iL (7) (7) rfl) (fun c_535e c_535 => ?_) (fun c_535e c_535 => ?_)
                  · refine zH_bp (tX2_readMember h_509) (fun x_536 μ_537 p_538 => ?_)
                    have h_539 : J L M μ_537 := p_538.1
                    have q_540 : x_536.toInt = 0 ∨ x_536.toInt = 1 := p_538.2
                    unfold fX2_readStatement_n154
                    refine zH_eqc (rfl : x_536.toInt = _) (iL (0) (0) rfl) (fun c_541e c_541 => ?_) (fun c_541e c_541 => ?_)
                    · have q_542 : (0 : Int32).toInt = (0 : Int) := (iL (0) (0) rfl)
                      exact zH_some ⟨h_539, show (0 : Int32).toInt = 0 ∨ (0 : Int32).toInt = 1 from by have q_543 : ((0 : Int32)).toInt = (0 : Int) := (iL (0) (0) rfl); omega⟩
                    · refine zH_bp (tX7_passStop h_539.hl h_539.jl) (fun x_544 μ_545 p_546 => ?_)
                      have h_547 : J L M μ_545 := h_539.lex p_546.1
                      have q_548 : (μ_545 18 10).toInt = (μ_537 18 10).toInt := congrArg Int32.toInt (congrFun (p_546.1.1 18 (by decide)) (10))
                      have q_549 : (μ_545 19 2).toInt = (μ_537 19 2).toInt := congrArg Int32.toInt (congrFun (p_546.1.1 19 (by decide)) (2))
                      have q_550 : (μ_545 19 x_3.toNatClampNeg).toInt = (μ_537 19 x_3.toNatClampNeg).toInt := congrArg Int32.toInt (congrFun (p_546.1.1 19 (by decide)) (x_3.toNatClampNeg))
                      have q_551 : x_544.toInt = 0 ∨ x_544.toInt = 1 := p_546.2
                      refine zH_eqc (rfl : x_544.toInt = _) (iL (0) (0) rfl) (fun c_552e c_552 => ?_) (fun c_552e c_552 => ?_)
                      · have q_553 : (0 : Int32).toInt = (0 : Int) := (iL (0) (0) rfl)
                        exact zH_some ⟨h_547, show (0 : Int32).toInt = 0 ∨ (0 : Int32).toInt = 1 from by have q_554 : ((0 : Int32)).toInt = (0 : Int) := (iL (0) (0) rfl); omega⟩
                      · have q_555 : (1 : Int32).toInt = (1 : Int) := (iL (1) (1) rfl)
                        exact zH_some ⟨h_547, show (1 : Int32).toInt = 0 ∨ (1 : Int32).toInt = 1 from by have q_556 : ((1 : Int32)).toInt = (1 : Int) := (iL (1) (1) rfl); omega⟩
                  · refine zH_eqc (rfl : x_3.toInt = _) (iL (11) (11) rfl) (fun c_557e c_557 => ?_) (fun c_557e c_557 => ?_)
                    · refine zH_bp (tX2_readTrack h_509 (by omega)) (fun x_558 μ_559 p_560 => ?_)
                      have h_561 : J L M μ_559 := p_560.1
                      have q_562 : x_558.toInt = 0 ∨ x_558.toInt = 1 := p_560.2
                      unfold fX2_readStatement_n154
                      refine zH_eqc (rfl : x_558.toInt = _) (iL (0) (0) rfl) (fun c_563e c_563 => ?_) (fun c_563e c_563 => ?_)
                      · have q_564 : (0 : Int32).toInt = (0 : Int) := (iL (0) (0) rfl)
                        exact zH_some ⟨h_561, show (0 : Int32).toInt = 0 ∨ (0 : Int32).toInt = 1 from by have q_565 : ((0 : Int32)).toInt = (0 : Int) := (iL (0) (0) rfl); omega⟩
                      · refine zH_bp (tX7_passStop h_561.hl h_561.jl) (fun x_566 μ_567 p_568 => ?_)
                        have h_569 : J L M μ_567 := h_561.lex p_568.1
                        have q_570 : (μ_567 18 10).toInt = (μ_559 18 10).toInt := congrArg Int32.toInt (congrFun (p_568.1.1 18 (by decide)) (10))
                        have q_571 : (μ_567 19 2).toInt = (μ_559 19 2).toInt := congrArg Int32.toInt (congrFun (p_568.1.1 19 (by decide)) (2))
                        have q_572 : (μ_567 19 x_3.toNatClampNeg).toInt = (μ_559 19 x_3.toNatClampNeg).toInt := congrArg Int32.toInt (congrFun (p_568.1.1 19 (by decide)) (x_3.toNatClampNeg))
                        have q_573 : x_566.toInt = 0 ∨ x_566.toInt = 1 := p_568.2
                        refine zH_eqc (rfl : x_566.toInt = _) (iL (0) (0) rfl) (fun c_574e c_574 => ?_) (fun c_574e c_574 => ?_)
                        · have q_575 : (0 : Int32).toInt = (0 : Int) := (iL (0) (0) rfl)
                          exact zH_some ⟨h_569, show (0 : Int32).toInt = 0 ∨ (0 : Int32).toInt = 1 from by have q_576 : ((0 : Int32)).toInt = (0 : Int) := (iL (0) (0) rfl); omega⟩
                        · have q_577 : (1 : Int32).toInt = (1 : Int) := (iL (1) (1) rfl)
                          exact zH_some ⟨h_569, show (1 : Int32).toInt = 0 ∨ (1 : Int32).toInt = 1 from by have q_578 : ((1 : Int32)).toInt = (1 : Int) := (iL (1) (1) rfl); omega⟩
                    · refine zH_bp (tX2_readName h_509 (by omega) (by omega) (by omega) (by omega) (by omega)) (fun x_579 μ_580 p_581 => ?_)
                      have h_582 : J L M μ_580 := p_581.1
                      have q_583 : x_579.toInt = 0 ∨ x_579.toInt = 1 := p_581.2
                      unfold fX2_readStatement_n154
                      refine zH_eqc (rfl : x_579.toInt = _) (iL (0) (0) rfl) (fun c_584e c_584 => ?_) (fun c_584e c_584 => ?_)
                      · have q_585 : (0 : Int32).toInt = (0 : Int) := (iL (0) (0) rfl)
                        exact zH_some ⟨h_582, show (0 : Int32).toInt = 0 ∨ (0 : Int32).toInt = 1 from by have q_586 : ((0 : Int32)).toInt = (0 : Int) := (iL (0) (0) rfl); omega⟩
                      · refine zH_bp (tX7_passStop h_582.hl h_582.jl) (fun x_587 μ_588 p_589 => ?_)
                        have h_590 : J L M μ_588 := h_582.lex p_589.1
                        have q_591 : (μ_588 18 10).toInt = (μ_580 18 10).toInt := congrArg Int32.toInt (congrFun (p_589.1.1 18 (by decide)) (10))
                        have q_592 : (μ_588 19 2).toInt = (μ_580 19 2).toInt := congrArg Int32.toInt (congrFun (p_589.1.1 19 (by decide)) (2))
                        have q_593 : (μ_588 19 x_3.toNatClampNeg).toInt = (μ_580 19 x_3.toNatClampNeg).toInt := congrArg Int32.toInt (congrFun (p_589.1.1 19 (by decide)) (x_3.toNatClampNeg))
                        have q_594 : x_587.toInt = 0 ∨ x_587.toInt = 1 := p_589.2
                        refine zH_eqc (rfl : x_587.toInt = _) (iL (0) (0) rfl) (fun c_595e c_595 => ?_) (fun c_595e c_595 => ?_)
                        · have q_596 : (0 : Int32).toInt = (0 : Int) := (iL (0) (0) rfl)
                          exact zH_some ⟨h_590, show (0 : Int32).toInt = 0 ∨ (0 : Int32).toInt = 1 from by have q_597 : ((0 : Int32)).toInt = (0 : Int) := (iL (0) (0) rfl); omega⟩
                        · have q_598 : (1 : Int32).toInt = (1 : Int) := (iL (1) (1) rfl)
                          exact zH_some ⟨h_590, show (1 : Int32).toInt = 0 ∨ (1 : Int32).toInt = 1 from by have q_599 : ((1 : Int32)).toInt = (1 : Int) := (iL (1) (1) rfl); omega⟩
              · unfold fX2_readStatement_n66
                have q_600 : (6 : Int32).toInt = (6 : Int) := (iL (6) (6) rfl)
                refine zH_bp (tX7_refuse h.hl h.jl) (fun x_601 μ_602 p_603 => ?_)
                have h_604 : J L M μ_602 := h.lex p_603.1
                have q_605 : (μ_602 18 10).toInt = (μ 18 10).toInt := congrArg Int32.toInt (congrFun (p_603.1.1 18 (by decide)) (10))
                have q_606 : (μ_602 19 2).toInt = (μ 19 2).toInt := congrArg Int32.toInt (congrFun (p_603.1.1 19 (by decide)) (2))
                have q_607 : (μ_602 19 x_3.toNatClampNeg).toInt = (μ 19 x_3.toNatClampNeg).toInt := congrArg Int32.toInt (congrFun (p_603.1.1 19 (by decide)) (x_3.toNatClampNeg))
                have q_608 : x_601.toInt = 0 := p_603.2
                refine zH_ck (zBo (show (x_601).toInt = 0 ∨ (x_601).toInt = 1 from by have q_609 : (x_601).toInt = x_601.toInt := (rfl : x_601.toInt = _); omega)) ?_
                exact zH_some ⟨h_604, show x_601.toInt = 0 ∨ x_601.toInt = 1 from by have q_610 : (x_601).toInt = x_601.toInt := (rfl : x_601.toInt = _); omega⟩
          · have q_611 : (1 : Int32).toInt = (1 : Int) := (iL (1) (1) rfl)
            refine zH_bp (tX7_refuse h.hl h.jl) (fun x_612 μ_613 p_614 => ?_)
            have h_615 : J L M μ_613 := h.lex p_614.1
            have q_616 : (μ_613 18 10).toInt = (μ 18 10).toInt := congrArg Int32.toInt (congrFun (p_614.1.1 18 (by decide)) (10))
            have q_617 : (μ_613 19 2).toInt = (μ 19 2).toInt := congrArg Int32.toInt (congrFun (p_614.1.1 19 (by decide)) (2))
            have q_618 : (μ_613 19 x_3.toNatClampNeg).toInt = (μ 19 x_3.toNatClampNeg).toInt := congrArg Int32.toInt (congrFun (p_614.1.1 19 (by decide)) (x_3.toNatClampNeg))
            have q_619 : x_612.toInt = 0 := p_614.2
            refine zH_ck (zBo (show (x_612).toInt = 0 ∨ (x_612).toInt = 1 from by have q_620 : (x_612).toInt = x_612.toInt := (rfl : x_612.toInt = _); omega)) ?_
            exact zH_some ⟨h_615, show x_612.toInt = 0 ∨ x_612.toInt = 1 from by have q_621 : (x_612).toInt = x_612.toInt := (rfl : x_612.toInt = _); omega⟩
theorem tX2_read_l16 {L : Int32} {M : gM}    : ∀ (n : Nat) (y1 : Int32) (μ : gM), J L M μ → 0 ≤ y1.toInt → y1.toInt ≤ 61 → 61 - y1.toInt < (n : Int) → zH (fX2_read_l16  n y1 μ) (fun r => J L M r.2 ∧ (r.1.toInt = 0 ∨ r.1.toInt = 1)) := by
  intro n
  induction n with
  | zero =>
    intro y1 μ  h g0 g1 gm
    exact absurd gm (by omega)
  | succ n ih =>
    intro y1 μ  h g0 g1 gm
    rw [fX2_read_l16]
    refine zH_ltc (iL (60) (60) rfl) (rfl : y1.toInt = _) (fun c_1 => ?_) (fun c_1 => ?_)
    · have q_2 : (1 : Int32).toInt = (1 : Int) := (iL (1) (1) rfl)
      exact zH_some ⟨h, show (1 : Int32).toInt = 0 ∨ (1 : Int32).toInt = 1 from by have q_3 : ((1 : Int32)).toInt = (1 : Int) := (iL (1) (1) rfl); omega⟩
    · refine zH_bd (tX7_isEnded) (fun x_4 p_5 => ?_)
      have q_6 : x_4.toInt = 0 ∨ x_4.toInt = 1 := p_5
      refine zH_eqc (rfl : x_4.toInt = _) (iL (0) (0) rfl) (fun c_7e c_7 => ?_) (fun c_7e c_7 => ?_)
      · refine zH_bp (tX2_readStatement h) (fun x_8 μ_9 p_10 => ?_)
        have h_11 : J L M μ_9 := p_10.1
        have q_12 : x_8.toInt = 0 ∨ x_8.toInt = 1 := p_10.2
        refine zH_eqc (rfl : x_8.toInt = _) (iL (0) (0) rfl) (fun c_13e c_13 => ?_) (fun c_13e c_13 => ?_)
        · have q_14 : (0 : Int32).toInt = (0 : Int) := (iL (0) (0) rfl)
          exact zH_some ⟨h_11, show (0 : Int32).toInt = 0 ∨ (0 : Int32).toInt = 1 from by have q_15 : ((0 : Int32)).toInt = (0 : Int) := (iL (0) (0) rfl); omega⟩
        · refine zH_lt (fun x_16 e_17 => ?_)
          have q_18 : x_16.toInt = (y1.toInt + (1 : Int)) := (congrArg Int32.toInt e_17).trans (iA (rfl : y1.toInt = _) (iL (1) (1) rfl) (by omega) (by omega))
          exact zH_mono (ih x_16 μ_9 h_11 (by omega) (by omega) (by omega)) (fun r_20 p_19 => ⟨p_19.1, show (r_20.1).toInt = 0 ∨ (r_20.1).toInt = 1 from by have q_21 : (r_20.1).toInt = 0 ∨ (r_20.1).toInt = 1 := p_19.2; omega⟩)
      · have q_22 : (1 : Int32).toInt = (1 : Int) := (iL (1) (1) rfl)
        exact zH_some ⟨h, show (1 : Int32).toInt = 0 ∨ (1 : Int32).toInt = 1 from by have q_23 : ((1 : Int32)).toInt = (1 : Int) := (iL (1) (1) rfl); omega⟩
theorem tX2_read {L : Int32} {M : gM} {μ : gM}  (h : J L M μ)  : zH (fX2_read μ) (fun r => J L M r.2 ∧ (r.1.toInt = 0 ∨ r.1.toInt = 1)) := by
  unfold fX2_read
  refine zH_bd (tX1_clear h) (fun μ_1 p_2 => ?_)
  have h_3 : J L M μ_1 := p_2
  refine zH_bd (tX7_open h_3.hl h_3.jl) (fun μ_4 p_5 => ?_)
  have h_6 : J L M μ_4 := h_3.lex p_5
  have q_7 : (0 : Int32).toInt = (0 : Int) := (iL (0) (0) rfl)
  exact zH_mono (tX2_read_l16 100000 (0 : Int32) μ_4 h_6 (by omega) (by omega) (by omega)) (fun r_9 p_8 => ⟨p_8.1, show (r_9.1).toInt = 0 ∨ (r_9.1).toInt = 1 from by have q_10 : r_9.1.toInt = 0 ∨ r_9.1.toInt = 1 := p_8.2; omega⟩)
