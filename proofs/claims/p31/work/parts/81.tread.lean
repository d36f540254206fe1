theorem tX5_at  {p0 : Nat} {a1 : Int32} {μ : gM}   (g0 : 0 ≤ a1.toInt) (g1 : a1.toInt ≤ 19) : zH (fX5_at p0 a1 μ) (fun _ => True) := by
  unfold fX5_at
  refine zH_ck (zIn (iM (rfl : a1.toInt = _) (iL (5) (5) rfl) (by omega) (by omega)) (by omega) (by omega)) ?_
  exact zH_some trivial
theorem tX5_firstFrom_l2  {p0 : Nat}   : ∀ (n : Nat) (y1 : Int32) (y2 : Int32) (μ : gM), 0 ≤ y2.toInt → y2.toInt ≤ 20 → (μ p0 0).toInt ≤ 20 → 20 - y2.toInt < (n : Int) → zH (fX5_firstFrom_l2 p0 n y1 y2 μ) (fun v => 0 ≤ v.toInt) := by
  intro n
  induction n with
  | zero =>
    intro y1 y2 μ  g0 g1 g2 gm
    exact absurd gm (by omega)
  | succ n ih =>
    intro y1 y2 μ  g0 g1 g2 gm
    rw [fX5_firstFrom_l2]
    refine zH_lec (rfl : (μ p0 0).toInt = _) (rfl : y2.toInt = _) (fun c_1 => ?_) (fun c_1 => ?_)
    · exact zH_some (show 0 ≤ y2.toInt from by have q_2 : (y2).toInt = y2.toInt := (rfl : y2.toInt = _); omega)
    · refine zH_bd (tX5_at (by omega) (by omega)) (fun x_3 p_4 => ?_)
      refine zH_lec (rfl : y1.toInt = _) (rfl : x_3.toInt = _) (fun c_5 => ?_) (fun c_5 => ?_)
      · exact zH_some (show 0 ≤ y2.toInt from by have q_6 : (y2).toInt = y2.toInt := (rfl : y2.toInt = _); omega)
      · refine zH_lt (fun x_7 e_8 => ?_)
        have q_9 : x_7.toInt = (y2.toInt + (1 : Int)) := (congrArg Int32.toInt e_8).trans (iA (rfl : y2.toInt = _) (iL (1) (1) rfl) (by omega) (by omega))
        exact zH_mono (ih y1 x_7 μ (by omega) (by omega) (by omega) (by omega)) (fun r_11 p_10 => show 0 ≤ r_11.toInt from by have q_12 : 0 ≤ r_11.toInt := p_10; omega)
theorem tX5_firstFrom  {p0 : Nat} {a1 : Int32} {μ : gM}   (g0 : (μ p0 0).toInt ≤ 20) : zH (fX5_firstFrom p0 a1 μ) (fun v => 0 ≤ v.toInt) := by
  unfold fX5_firstFrom
  have q_1 : (0 : Int32).toInt = (0 : Int) := (iL (0) (0) rfl)
  exact zH_mono (tX5_firstFrom_l2 100000 a1 (0 : Int32) μ (by omega) (by omega) (by omega) (by omega)) (fun r_3 p_2 => show 0 ≤ r_3.toInt from by have q_4 : 0 ≤ r_3.toInt := p_2; omega)
theorem tX0_add {w : Bool} {L : Int32} {M : gM} {p0 : Nat} {a1 : Int32} {a2 : Int32} {a3 : Int32} {a4 : Int32} {μ : gM} (hp0 : sC p0) (h : J w L M μ)  : zH (fX0_add p0 a1 a2 a3 a4 μ) (fun ν => J w L M ν) := by
  unfold fX0_add
  have f_2 : (0 : Int) ≤ (μ p0 1).toInt ∧ (μ p0 1).toInt ≤ 59 := h.rd (a := p0) hp0.1 (by have := hp0.2.2.1; omega) 1
  refine zH_lec (iL (60) (60) rfl) (iA (rfl : (μ p0 1).toInt = _) (iL (1) (1) rfl) (by omega) (by omega)) (fun c_1 => ?_) (fun c_1 => ?_)
  · unfold fX0_add_n22
    have q_6 : (0 : Int32).toInt = (0 : Int) := (iL (0) (0) rfl)
    refine zH_lt (fun μ_3 e_4 => ?_)
    have h_5 : J w L M μ_3 := by rw [e_4]; exact J.up h (a := p0) (k := (0, 0)) hp0.1 (fx34 (by have := hp0.2.2.2; omega) (by have := hp0.2.2.1; omega)) (by decide) (by decide) (Or.inl (fun e => by subst e; exact absurd hp0.1 (by decide))) (show (0 : Int) ≤ (0 : Int32).toInt ∧ (0 : Int32).toInt ≤ 59 from by have q_7 : (0 : Int32).toInt = (0 : Int) := (iL (0) (0) rfl); omega)
    have f_9 : (0 : Int) ≤ (μ_3 p0 0).toInt ∧ (μ_3 p0 0).toInt ≤ 60 := h_5.rd (a := p0) hp0.1 (by have := hp0.2.2.1; omega) 0
    refine zH_lec (iL (60) (60) rfl) (rfl : (μ_3 p0 0).toInt = _) (fun c_8 => ?_) (fun c_8 => ?_)
    · unfold fX0_add_n46
      have q_13 : (60 : Int32).toInt = (60 : Int) := (iL (60) (60) rfl)
      refine zH_lt (fun μ_10 e_11 => ?_)
      have h_12 : J w L M μ_10 := by rw [e_11]; exact J.up h_5 (a := p0) (k := (0, 0)) hp0.1 (fx34 (by have := hp0.2.2.2; omega) (by have := hp0.2.2.1; omega)) (by decide) (by decide) (Or.inl (fun e => by subst e; exact absurd hp0.1 (by decide))) (show (0 : Int) ≤ (60 : Int32).toInt ∧ (60 : Int32).toInt ≤ 60 from by have q_14 : (60 : Int32).toInt = (60 : Int) := (iL (60) (60) rfl); omega)
      have f_17 : (0 : Int) ≤ (μ_10 p0 1).toInt ∧ (μ_10 p0 1).toInt ≤ 59 := h_12.rd (a := p0) hp0.1 (by have := hp0.2.2.1; omega) 1
      refine zH_lt (fun x_15 e_16 => ?_)
      have q_18 : x_15.toInt = ((μ_10 p0 1).toInt * (4 : Int)) := (congrArg Int32.toInt e_16).trans (iM (rfl : (μ_10 p0 1).toInt = _) (iL (4) (4) rfl) (by omega) (by omega))
      refine zH_ck (zIn (rfl : x_15.toInt = _) (by omega) (by omega)) ?_
      refine zH_lt (fun μ_19 e_20 => ?_)
      have h_21 : J w L M μ_19 := by rw [e_20]; exact J.upf h_12 (a := (p0 + 1)) (k := (1, 240)) hp0.2.1 (fx34 (by have := hp0.2.2.2; omega) (by have := hp0.2.2.1; omega)) (by decide) (by decide) (Or.inl (fun e => by have := hp0.2.1; rw [e] at this; exact absurd this (by decide))) rfl
      refine zH_ck (zIn (iA (rfl : x_15.toInt = _) (iL (1) (1) rfl) (by omega) (by omega)) (by omega) (by omega)) ?_
      refine zH_lt (fun μ_22 e_23 => ?_)
      have h_24 : J w L M μ_22 := by rw [e_23]; exact J.upf h_21 (a := (p0 + 1)) (k := (1, 240)) hp0.2.1 (fx34 (by have := hp0.2.2.2; omega) (by have := hp0.2.2.1; omega)) (by decide) (by decide) (Or.inl (fun e => by have := hp0.2.1; rw [e] at this; exact absurd this (by decide))) rfl
      refine zH_ck (zIn (iA (rfl : x_15.toInt = _) (iL (2) (2) rfl) (by omega) (by omega)) (by omega) (by omega)) ?_
      refine zH_lt (fun μ_25 e_26 => ?_)
      have h_27 : J w L M μ_25 := by rw [e_26]; exact J.upf h_24 (a := (p0 + 1)) (k := (1, 240)) hp0.2.1 (fx34 (by have := hp0.2.2.2; omega) (by have := hp0.2.2.1; omega)) (by decide) (by decide) (Or.inl (fun e => by have := hp0.2.1; rw [e] at this; exact absurd this (by decide))) rfl
      refine zH_ck (zIn (iA (rfl : x_15.toInt = _) (iL (3) (3) rfl) (by omega) (by omega)) (by omega) (by omega)) ?_
      refine zH_lt (fun μ_28 e_29 => ?_)
      have h_30 : J w L M μ_28 := by rw [e_29]; exact J.upf h_27 (a := (p0 + 1)) (k := (1, 240)) hp0.2.1 (fx34 (by have := hp0.2.2.2; omega) (by have := hp0.2.2.1; omega)) (by decide) (by decide) (Or.inl (fun e => by have := hp0.2.1; rw [e] at this; exact absurd this (by decide))) rfl
      exact zH_some h_30
    · unfold fX0_add_n46
      have q_34 : ((μ_3 p0 0) + (1 : Int32)).toInt = ((μ_3 p0 0).toInt + (1 : Int)) := (iA (rfl : (μ_3 p0 0).toInt = _) (iL (1) (1) rfl) (by omega) (by omega))
      refine zH_lt (fun μ_31 e_32 => ?_)
      have h_33 : J w L M μ_31 := by rw [e_32]; exact J.up h_5 (a := p0) (k := (0, 0)) hp0.1 (fx34 (by have := hp0.2.2.2; omega) (by have := hp0.2.2.1; omega)) (by decide) (by decide) (Or.inl (fun e => by subst e; exact absurd hp0.1 (by decide))) (show (0 : Int) ≤ ((μ_3 p0 0) + (1 : Int32)).toInt ∧ ((μ_3 p0 0) + (1 : Int32)).toInt ≤ 60 from by have q_35 : ((μ_3 p0 0) + (1 : Int32)).toInt = ((μ_3 p0 0).toInt + (1 : Int)) := (iA (rfl : (μ_3 p0 0).toInt = _) (iL (1) (1) rfl) (by omega) (by omega)); omega)
      have f_38 : (0 : Int) ≤ (μ_31 p0 1).toInt ∧ (μ_31 p0 1).toInt ≤ 59 := h_33.rd (a := p0) hp0.1 (by have := hp0.2.2.1; omega) 1
      refine zH_lt (fun x_36 e_37 => ?_)
      have q_39 : x_36.toInt = ((μ_31 p0 1).toInt * (4 : Int)) := (congrArg Int32.toInt e_37).trans (iM (rfl : (μ_31 p0 1).toInt = _) (iL (4) (4) rfl) (by omega) (by omega))
      refine zH_ck (zIn (rfl : x_36.toInt = _) (by omega) (by omega)) ?_
      refine zH_lt (fun μ_40 e_41 => ?_)
      have h_42 : J w L M μ_40 := by rw [e_41]; exact J.upf h_33 (a := (p0 + 1)) (k := (1, 240)) hp0.2.1 (fx34 (by have := hp0.2.2.2; omega) (by have := hp0.2.2.1; omega)) (by decide) (by decide) (Or.inl (fun e => by have := hp0.2.1; rw [e] at this; exact absurd this (by decide))) rfl
      refine zH_ck (zIn (iA (rfl : x_36.toInt = _) (iL (1) (1) rfl) (by omega) (by omega)) (by omega) (by omega)) ?_
      refine zH_lt (fun μ_43 e_44 => ?_)
      have h_45 : J w L M μ_43 := by rw [e_44]; exact J.upf h_42 (a := (p0 + 1)) (k := (1, 240)) hp0.2.1 (fx34 (by have := hp0.2.2.2; omega) (by have := hp0.2.2.1; omega)) (by decide) (by decide) (Or.inl (fun e => by have := hp0.2.1; rw [e] at this; exact absurd this (by decide))) rfl
      refine zH_ck (zIn (iA (rfl : x_36.toInt = _) (iL (2) (2) rfl) (by omega) (by omega)) (by omega) (by omega)) ?_
      refine zH_lt (fun μ_46 e_47 => ?_)
      have h_48 : J w L M μ_46 := by rw [e_47]; exact J.upf h_45 (a := (p0 + 1)) (k := (1, 240)) hp0.2.1 (fx34 (by have := hp0.2.2.2; omega) (by have := hp0.2.2.1; omega)) (by decide) (by decide) (Or.inl (fun e => by have := hp0.2.1; rw [e] at this; exact absurd this (by decide))) rfl
      refine zH_ck (zIn (iA (rfl : x_36.toInt = _) (iL (3) (3) rfl) (by omega) (by omega)) (by omega) (by omega)) ?_
      refine zH_lt (fun μ_49 e_50 => ?_)
      have h_51 : J w L M μ_49 := by rw [e_50]; exact J.upf h_48 (a := (p0 + 1)) (k := (1, 240)) hp0.2.1 (fx34 (by have := hp0.2.2.2; omega) (by have := hp0.2.2.1; omega)) (by decide) (by decide) (Or.inl (fun e => by have := hp0.2.1; rw [e] at this; exact absurd this (by decide))) rfl
      exact zH_some h_51
  · unfold fX0_add_n22
    have q_55 : ((μ p0 1) + (1 : Int32)).toInt = ((μ p0 1).toInt + (1 : Int)) := (iA (rfl : (μ p0 1).toInt = _) (iL (1) (1) rfl) (by omega) (by omega))
    refine zH_lt (fun μ_52 e_53 => ?_)
    have h_54 : J w L M μ_52 := by rw [e_53]; exact J.up h (a := p0) (k := (0, 0)) hp0.1 (fx34 (by have := hp0.2.2.2; omega) (by have := hp0.2.2.1; omega)) (by decide) (by decide) (Or.inl (fun e => by subst e; exact absurd hp0.1 (by decide))) (show (0 : Int) ≤ ((μ p0 1) + (1 : Int32)).toInt ∧ ((μ p0 1) + (1 : Int32)).toInt ≤ 59 from by have q_56 : ((μ p0 1) + (1 : Int32)).toInt = ((μ p0 1).toInt + (1 : Int)) := (iA (rfl : (μ p0 1).toInt = _) (iL (1) (1) rfl) (by omega) (by omega)); omega)
    have f_58 : (0 : Int) ≤ (μ_52 p0 0).toInt ∧ (μ_52 p0 0).toInt ≤ 60 := h_54.rd (a := p0) hp0.1 (by have := hp0.2.2.1; omega) 0
    refine zH_lec (iL (60) (60) rfl) (rfl : (μ_52 p0 0).toInt = _) (fun c_57 => ?_) (fun c_57 => ?_)
    · unfold fX0_add_n46
      have q_62 : (60 : Int32).toInt = (60 : Int) := (iL (60) (60) rfl)
      refine zH_lt (fun μ_59 e_60 => ?_)
      have h_61 : J w L M μ_59 := by rw [e_60]; exact J.up h_54 (a := p0) (k := (0, 0)) hp0.1 (fx34 (by have := hp0.2.2.2; omega) (by have := hp0.2.2.1; omega)) (by decide) (by decide) (Or.inl (fun e => by subst e; exact absurd hp0.1 (by decide))) (show (0 : Int) ≤ (60 : Int32).toInt ∧ (60 : Int32).toInt ≤ 60 from by have q_63 : (60 : Int32).toInt = (60 : Int) := (iL (60) (60) rfl); omega)
      have f_66 : (0 : Int) ≤ (μ_59 p0 1).toInt ∧ (μ_59 p0 1).toInt ≤ 59 := h_61.rd (a := p0) hp0.1 (by have := hp0.2.2.1; omega) 1
      refine zH_lt (fun x_64 e_65 => ?_)
      have q_67 : x_64.toInt = ((μ_59 p0 1).toInt * (4 : Int)) := (congrArg Int32.toInt e_65).trans (iM (rfl : (μ_59 p0 1).toInt = _) (iL (4) (4) rfl) (by omega) (by omega))
      refine zH_ck (zIn (rfl : x_64.toInt = _) (by omega) (by omega)) ?_
      refine zH_lt (fun μ_68 e_69 => ?_)
      have h_70 : J w L M μ_68 := by rw [e_69]; exact J.upf h_61 (a := (p0 + 1)) (k := (1, 240)) hp0.2.1 (fx34 (by have := hp0.2.2.2; omega) (by have := hp0.2.2.1; omega)) (by decide) (by decide) (Or.inl (fun e => by have := hp0.2.1; rw [e] at this; exact absurd this (by decide))) rfl
      refine zH_ck (zIn (iA (rfl : x_64.toInt = _) (iL (1) (1) rfl) (by omega) (by omega)) (by omega) (by omega)) ?_
      refine zH_lt (fun μ_71 e_72 => ?_)
      have h_73 : J w L M μ_71 := by rw [e_72]; exact J.upf h_70 (a := (p0 + 1)) (k := (1, 240)) hp0.2.1 (fx34 (by have := hp0.2.2.2; omega) (by have := hp0.2.2.1; omega)) (by decide) (by decide) (Or.inl (fun e => by have := hp0.2.1; rw [e] at this; exact absurd this (by decide))) rfl
      refine zH_ck (zIn (iA (rfl : x_64.toInt = _) (iL (2) (2) rfl) (by omega) (by omega)) (by omega) (by omega)) ?_
      refine zH_lt (fun μ_74 e_75 => ?_)
      have h_76 : J w L M μ_74 := by rw [e_75]; exact J.upf h_73 (a := (p0 + 1)) (k := (1, 240)) hp0.2.1 (fx34 (by have := hp0.2.2.2; omega) (by have := hp0.2.2.1; omega)) (by decide) (by decide) (Or.inl (fun e => by have := hp0.2.1; rw [e] at this; exact absurd this (by decide))) rfl
      refine zH_ck (zIn (iA (rfl : x_64.toInt = _) (iL (3) (3) rfl) (by omega) (by omega)) (by omega) (by omega)) ?_
      refine zH_lt (fun μ_77 e_78 => ?_)
      have h_79 : J w L M μ_77 := by rw [e_78]; exact J.upf h_76 (a := (p0 + 1)) (k := (1, 240)) hp0.2.1 (fx34 (by have := hp0.2.2.2; omega) (by have := hp0.2.2.1; omega)) (by decide) (by decide) (Or.inl (fun e => by have := hp0.2.1; rw [e] at this; exact absurd this (by decide))) rfl
      exact zH_some h_79
    · unfold fX0_add_n46
      have q_83 : ((μ_52 p0 0) + (1 : Int32)).toInt = ((μ_52 p0 0).toInt + (1 : Int)) := (iA (rfl : (μ_52 p0 0).toInt = _) (iL (1) (1) rfl) (by omega) (by omega))
      refine zH_lt (fun μ_80 e_81 => ?_)
      have h_82 : J w L M μ_80 := by rw [e_81]; exact J.up h_54 (a := p0) (k := (0, 0)) hp0.1 (fx34 (by have := hp0.2.2.2; omega) (by have := hp0.2.2.1; omega)) (by decide) (by decide) (Or.inl (fun e => by subst e; exact absurd hp0.1 (by decide))) (show (0 : Int) ≤ ((μ_52 p0 0) + (1 : Int32)).toInt ∧ ((μ_52 p0 0) + (1 : Int32)).toInt ≤ 60 from by have q_84 : ((μ_52 p0 0) + (1 : Int32)).toInt = ((μ_52 p0 0).toInt + (1 : Int)) := (iA (rfl : (μ_52 p0 0).toInt = _) (iL (1) (1) rfl) (by omega) (by omega)); omega)
      have f_87 : (0 : Int) ≤ (μ_80 p0 1).toInt ∧ (μ_80 p0 1).toInt ≤ 59 := h_82.rd (a := p0) hp0.1 (by have := hp0.2.2.1; omega) 1
      refine zH_lt (fun x_85 e_86 => ?_)
      have q_88 : x_85.toInt = ((μ_80 p0 1).toInt * (4 : Int)) := (congrArg Int32.toInt e_86).trans (iM (rfl : (μ_80 p0 1).toInt = _) (iL (4) (4) rfl) (by omega) (by omega))
      refine zH_ck (zIn (rfl : x_85.toInt = _) (by omega) (by omega)) ?_
      refine zH_lt (fun μ_89 e_90 => ?_)
      have h_91 : J w L M μ_89 := by rw [e_90]; exact J.upf h_82 (a := (p0 + 1)) (k := (1, 240)) hp0.2.1 (fx34 (by have := hp0.2.2.2; omega) (by have := hp0.2.2.1; omega)) (by decide) (by decide) (Or.inl (fun e => by have := hp0.2.1; rw [e] at this; exact absurd this (by decide))) rfl
      refine zH_ck (zIn (iA (rfl : x_85.toInt = _) (iL (1) (1) rfl) (by omega) (by omega)) (by omega) (by omega)) ?_
      refine zH_lt (fun μ_92 e_93 => ?_)
      have h_94 : J w L M μ_92 := by rw [e_93]; exact J.upf h_91 (a := (p0 + 1)) (k := (1, 240)) hp0.2.1 (fx34 (by have := hp0.2.2.2; omega) (by have := hp0.2.2.1; omega)) (by decide) (by decide) (Or.inl (fun e => by have := hp0.2.1; rw [e] at this; exact absurd this (by decide))) rfl
      refine zH_ck (zIn (iA (rfl : x_85.toInt = _) (iL (2) (2) rfl) (by omega) (by omega)) (by omega) (by omega)) ?_
      refine zH_lt (fun μ_95 e_96 => ?_)
      have h_97 : J w L M μ_95 := by rw [e_96]; exact J.upf h_94 (a := (p0 + 1)) (k := (1, 240)) hp0.2.1 (fx34 (by have := hp0.2.2.2; omega) (by have := hp0.2.2.1; omega)) (by decide) (by decide) (Or.inl (fun e => by have := hp0.2.1; rw [e] at this; exact absurd this (by decide))) rfl
      refine zH_ck (zIn (iA (rfl : x_85.toInt = _) (iL (3) (3) rfl) (by omega) (by omega)) (by omega) (by omega)) ?_
      refine zH_lt (fun μ_98 e_99 => ?_)
      have h_100 : J w L M μ_98 := by rw [e_99]; exact J.upf h_97 (a := (p0 + 1)) (k := (1, 240)) hp0.2.1 (fx34 (by have := hp0.2.2.2; omega) (by have := hp0.2.2.1; omega)) (by decide) (by decide) (Or.inl (fun e => by have := hp0.2.1; rw [e] at this; exact absurd this (by decide))) rfl
      exact zH_some h_100
theorem tX0_read {w : Bool} {L : Int32} {M : gM} {p0 : Nat} {a1 : Int32} {a2 : Int32} {μ : gM} (hp0 : sC p0) (h : J w L M μ)  : zH (fX0_read p0 a1 a2 μ) (fun _ => True) := by
  unfold fX0_read
  refine zH_ltc (rfl : a1.toInt = _) (iL (0) (0) rfl) (fun c_1 => ?_) (fun c_1 => ?_)
  · exact zH_some trivial
  · have f_3 : (0 : Int) ≤ (μ p0 0).toInt ∧ (μ p0 0).toInt ≤ 60 := h.rd (a := p0) hp0.1 (by have := hp0.2.2.1; omega) 0
    refine zH_lec (rfl : (μ p0 0).toInt = _) (rfl : a1.toInt = _) (fun c_2 => ?_) (fun c_2 => ?_)
    · exact zH_some trivial
    · refine zH_ltc (rfl : a2.toInt = _) (iL (0) (0) rfl) (fun c_4 => ?_) (fun c_4 => ?_)
      · exact zH_some trivial
      · refine zH_ltc (rfl : a2.toInt = _) (iL (4) (4) rfl) (fun c_5 => ?_) (fun c_5 => ?_)
        · have f_7 : (0 : Int) ≤ (μ p0 1).toInt ∧ (μ p0 1).toInt ≤ 59 := h.rd (a := p0) hp0.1 (by have := hp0.2.2.1; omega) 1
          refine zH_ltc (rfl : (μ p0 1).toInt = _) (rfl : a1.toInt = _) (fun c_6 => ?_) (fun c_6 => ?_)
          · unfold fX0_read_n49
            refine zH_ck (zIn (iA (iM (iA (iS (rfl : (μ p0 1).toInt = _) (rfl : a1.toInt = _) (by omega) (by omega)) (iL (60) (60) rfl) (by omega) (by omega)) (iL (4) (4) rfl) (by omega) (by omega)) (rfl : a2.toInt = _) (by omega) (by omega)) (by omega) (by omega)) ?_
            exact zH_some trivial
          · unfold fX0_read_n49
            refine zH_ck (zIn (iA (iM (iS (rfl : (μ p0 1).toInt = _) (rfl : a1.toInt = _) (by omega) (by omega)) (iL (4) (4) rfl) (by omega) (by omega)) (rfl : a2.toInt = _) (by omega) (by omega)) (by omega) (by omega)) ?_
            exact zH_some trivial
        · exact zH_some trivial
theorem tX0_copyFrom {w : Bool} {L : Int32} {M : gM} {p0 : Nat} {p1 : Nat} {μ : gM} (hp0 : sC p0) (hp1 : sC p1) (h : J w L M μ)  : zH (fX0_copyFrom p0 p1 μ) (fun ν => J w L M ν) := by
  unfold fX0_copyFrom
  have f_4 : (0 : Int) ≤ (μ p1 0).toInt ∧ (μ p1 0).toInt ≤ 60 := h.rd (a := p1) hp1.1 (by have := hp1.2.2.1; omega) 0
  refine zH_lt (fun μ_1 e_2 => ?_)
  have h_3 : J w L M μ_1 := by rw [e_2]; exact J.up h (a := p0) (k := (0, 0)) hp0.1 (fx34 (by have := hp0.2.2.2; omega) (by have := hp0.2.2.1; omega)) (by decide) (by decide) (Or.inl (fun e => by subst e; exact absurd hp0.1 (by decide))) (show (0 : Int) ≤ (μ p1 0).toInt ∧ (μ p1 0).toInt ≤ 60 from by have q_5 : (μ p1 0).toInt = (μ p1 0).toInt := (rfl : (μ p1 0).toInt = _); omega)
  have f_9 : (0 : Int) ≤ (μ_1 p1 1).toInt ∧ (μ_1 p1 1).toInt ≤ 59 := h_3.rd (a := p1) hp1.1 (by have := hp1.2.2.1; omega) 1
  refine zH_lt (fun μ_6 e_7 => ?_)
  have h_8 : J w L M μ_6 := by rw [e_7]; exact J.up h_3 (a := p0) (k := (0, 0)) hp0.1 (fx34 (by have := hp0.2.2.2; omega) (by have := hp0.2.2.1; omega)) (by decide) (by decide) (Or.inl (fun e => by subst e; exact absurd hp0.1 (by decide))) (show (0 : Int) ≤ (μ_1 p1 1).toInt ∧ (μ_1 p1 1).toInt ≤ 59 from by have q_10 : (μ_1 p1 1).toInt = (μ_1 p1 1).toInt := (rfl : (μ_1 p1 1).toInt = _); omega)
  refine zH_lt (fun μ_11 e_12 => ?_)
  have h_13 : J w L M μ_11 := by rw [e_12]; exact J.cp h_8 (a := (p0 + 1)) (b := (p1 + 1)) (k := (1, 240)) hp0.2.1 hp1.2.1 (fx34 (by have := hp0.2.2.2; omega) (by have := hp0.2.2.1; omega)) (by have := hp1.2.2.1; omega) (by decide) (by decide) (fun e => by have := hp0.2.1; rw [e] at this; exact absurd this (by decide))
  exact zH_some h_13
theorem tX1_isThere  {p0 : Nat} {a1 : Int32} {a2 : Int32} {μ : gM}  (h : NB p0 μ)  : zH (fX1_isThere p0 a1 a2 μ) (fun v => (v.toInt = 0 ∨ v.toInt = 1) ∧ (v.toInt = 1 → 0 ≤ a1.toInt ∧ a1.toInt ≤ 2 ∧ 0 ≤ a2.toInt ∧ a2.toInt < 8 ∧ (a1.toInt = 0 → a2.toInt < 6) ∧ (a1.toInt = 2 → a2.toInt < 5))) := by
  unfold fX1_isThere
  refine zH_ltc (rfl : a1.toInt = _) (iL (0) (0) rfl) (fun c_1 => ?_) (fun c_1 => ?_)
  · have q_2 : (0 : Int32).toInt = (0 : Int) := (iL (0) (0) rfl)
    exact zH_some (show ((0 : Int32).toInt = 0 ∨ (0 : Int32).toInt = 1) ∧ ((0 : Int32).toInt = 1 → 0 ≤ a1.toInt ∧ a1.toInt ≤ 2 ∧ 0 ≤ a2.toInt ∧ a2.toInt < 8 ∧ (a1.toInt = 0 → a2.toInt < 6) ∧ (a1.toInt = 2 → a2.toInt < 5)) from by have q_3 : (0 : Int32).toInt = (0 : Int) := (iL (0) (0) rfl); omega)
  · refine zH_ltc (iL (2) (2) rfl) (rfl : a1.toInt = _) (fun c_4 => ?_) (fun c_4 => ?_)
    · have q_5 : (0 : Int32).toInt = (0 : Int) := (iL (0) (0) rfl)
      exact zH_some (show ((0 : Int32).toInt = 0 ∨ (0 : Int32).toInt = 1) ∧ ((0 : Int32).toInt = 1 → 0 ≤ a1.toInt ∧ a1.toInt ≤ 2 ∧ 0 ≤ a2.toInt ∧ a2.toInt < 8 ∧ (a1.toInt = 0 → a2.toInt < 6) ∧ (a1.toInt = 2 → a2.toInt < 5)) from by have q_6 : (0 : Int32).toInt = (0 : Int) := (iL (0) (0) rfl); omega)
    · refine zH_ltc (rfl : a2.toInt = _) (iL (0) (0) rfl) (fun c_7 => ?_) (fun c_7 => ?_)
      · have q_8 : (0 : Int32).toInt = (0 : Int) := (iL (0) (0) rfl)
        exact zH_some (show ((0 : Int32).toInt = 0 ∨ (0 : Int32).toInt = 1) ∧ ((0 : Int32).toInt = 1 → 0 ≤ a1.toInt ∧ a1.toInt ≤ 2 ∧ 0 ≤ a2.toInt ∧ a2.toInt < 8 ∧ (a1.toInt = 0 → a2.toInt < 6) ∧ (a1.toInt = 2 → a2.toInt < 5)) from by have q_9 : (0 : Int32).toInt = (0 : Int) := (iL (0) (0) rfl); omega)
      · refine zH_ck (zIn (rfl : a1.toInt = _) (by omega) (by omega)) ?_
        have nc := h.c (a := a1) (by omega) (by omega)
        refine zH_lec (rfl : (μ (p0 + 1) (a1).toNatClampNeg).toInt = _) (rfl : a2.toInt = _) (fun c_10 => ?_) (fun c_10 => ?_)
        · have q_11 : (0 : Int32).toInt = (0 : Int) := (iL (0) (0) rfl)
          exact zH_some (show ((0 : Int32).toInt = 0 ∨ (0 : Int32).toInt = 1) ∧ ((0 : Int32).toInt = 1 → 0 ≤ a1.toInt ∧ a1.toInt ≤ 2 ∧ 0 ≤ a2.toInt ∧ a2.toInt < 8 ∧ (a1.toInt = 0 → a2.toInt < 6) ∧ (a1.toInt = 2 → a2.toInt < 5)) from by have q_12 : (0 : Int32).toInt = (0 : Int) := (iL (0) (0) rfl); omega)
        · have q_13 : (1 : Int32).toInt = (1 : Int) := (iL (1) (1) rfl)
          exact zH_some (show ((1 : Int32).toInt = 0 ∨ (1 : Int32).toInt = 1) ∧ ((1 : Int32).toInt = 1 → 0 ≤ a1.toInt ∧ a1.toInt ≤ 2 ∧ 0 ≤ a2.toInt ∧ a2.toInt < 8 ∧ (a1.toInt = 0 → a2.toInt < 6) ∧ (a1.toInt = 2 → a2.toInt < 5)) from by have q_14 : (1 : Int32).toInt = (1 : Int) := (iL (1) (1) rfl); omega)
theorem tX1_isGroup  {p0 : Nat} {a1 : Int32} {μ : gM}  (h : NB p0 μ)  : zH (fX1_isGroup p0 a1 μ) (fun v => (v.toInt = 0 ∨ v.toInt = 1) ∧ (v.toInt = 1 → 0 ≤ a1.toInt ∧ a1.toInt ≤ 4)) := by
  unfold fX1_isGroup
  refine zH_ltc (rfl : a1.toInt = _) (iL (0) (0) rfl) (fun c_1 => ?_) (fun c_1 => ?_)
  · have q_2 : (0 : Int32).toInt = (0 : Int) := (iL (0) (0) rfl)
    exact zH_some (show ((0 : Int32).toInt = 0 ∨ (0 : Int32).toInt = 1) ∧ ((0 : Int32).toInt = 1 → 0 ≤ a1.toInt ∧ a1.toInt ≤ 4) from by have q_3 : (0 : Int32).toInt = (0 : Int) := (iL (0) (0) rfl); omega)
  · have f_5 : (0 : Int) ≤ (μ (p0 + 1) 2).toInt ∧ (μ (p0 + 1) 2).toInt ≤ 5 := h.2.2.1
    refine zH_lec (rfl : (μ (p0 + 1) 2).toInt = _) (rfl : a1.toInt = _) (fun c_4 => ?_) (fun c_4 => ?_)
    · have q_6 : (0 : Int32).toInt = (0 : Int) := (iL (0) (0) rfl)
      exact zH_some (show ((0 : Int32).toInt = 0 ∨ (0 : Int32).toInt = 1) ∧ ((0 : Int32).toInt = 1 → 0 ≤ a1.toInt ∧ a1.toInt ≤ 4) from by have q_7 : (0 : Int32).toInt = (0 : Int) := (iL (0) (0) rfl); omega)
    · have q_8 : (1 : Int32).toInt = (1 : Int) := (iL (1) (1) rfl)
      exact zH_some (show ((1 : Int32).toInt = 0 ∨ (1 : Int32).toInt = 1) ∧ ((1 : Int32).toInt = 1 → 0 ≤ a1.toInt ∧ a1.toInt ≤ 4) from by have q_9 : (1 : Int32).toInt = (1 : Int) := (iL (1) (1) rfl); omega)
theorem tX1_isMember  {p0 : Nat} {a1 : Int32} {a2 : Int32} {μ : gM}  (h : NB p0 μ)  : zH (fX1_isMember p0 a1 a2 μ) (fun v => (v.toInt = 0 ∨ v.toInt = 1) ∧ (v.toInt = 1 → 0 ≤ a1.toInt ∧ a1.toInt ≤ 4 ∧ 0 ≤ a2.toInt ∧ a2.toInt ≤ 5)) := by
  unfold fX1_isMember
  refine zH_bd (tX1_isGroup h) (fun x_1 p_2 => ?_)
  have q_3 : (x_1.toInt = 0 ∨ x_1.toInt = 1) ∧ (x_1.toInt = 1 → 0 ≤ a1.toInt ∧ a1.toInt ≤ 4) := p_2
  refine zH_eqc (rfl : x_1.toInt = _) (iL (0) (0) rfl) (fun c_4e c_4 => ?_) (fun c_4e c_4 => ?_)
  · have q_5 : (0 : Int32).toInt = (0 : Int) := (iL (0) (0) rfl)
    exact zH_some (show ((0 : Int32).toInt = 0 ∨ (0 : Int32).toInt = 1) ∧ ((0 : Int32).toInt = 1 → 0 ≤ a1.toInt ∧ a1.toInt ≤ 4 ∧ 0 ≤ a2.toInt ∧ a2.toInt ≤ 5) from by have q_6 : (0 : Int32).toInt = (0 : Int) := (iL (0) (0) rfl); omega)
  · refine zH_ltc (rfl : a2.toInt = _) (iL (0) (0) rfl) (fun c_7 => ?_) (fun c_7 => ?_)
    · have q_8 : (0 : Int32).toInt = (0 : Int) := (iL (0) (0) rfl)
      exact zH_some (show ((0 : Int32).toInt = 0 ∨ (0 : Int32).toInt = 1) ∧ ((0 : Int32).toInt = 1 → 0 ≤ a1.toInt ∧ a1.toInt ≤ 4 ∧ 0 ≤ a2.toInt ∧ a2.toInt ≤ 5) from by have q_9 : (0 : Int32).toInt = (0 : Int) := (iL (0) (0) rfl); omega)
    · have f_11 : (0 : Int) ≤ (μ (p0 + 1) 0).toInt ∧ (μ (p0 + 1) 0).toInt ≤ 6 := h.1
      refine zH_lec (rfl : (μ (p0 + 1) 0).toInt = _) (rfl : a2.toInt = _) (fun c_10 => ?_) (fun c_10 => ?_)
      · have q_12 : (0 : Int32).toInt = (0 : Int) := (iL (0) (0) rfl)
        exact zH_some (show ((0 : Int32).toInt = 0 ∨ (0 : Int32).toInt = 1) ∧ ((0 : Int32).toInt = 1 → 0 ≤ a1.toInt ∧ a1.toInt ≤ 4 ∧ 0 ≤ a2.toInt ∧ a2.toInt ≤ 5) from by have q_13 : (0 : Int32).toInt = (0 : Int) := (iL (0) (0) rfl); omega)
      · refine zH_ck (zIn (rfl : a1.toInt = _) (by omega) (by omega)) ?_
        refine zH_eqc (rfl : (((μ (p0 + 7) (a1).toNatClampNeg) >>> (a2 &&& 31)) &&& (1 : Int32)).toInt = _) (iL (1) (1) rfl) (fun c_14e c_14 => ?_) (fun c_14e c_14 => ?_)
        · have q_15 : (1 : Int32).toInt = (1 : Int) := (iL (1) (1) rfl)
          exact zH_some (show ((1 : Int32).toInt = 0 ∨ (1 : Int32).toInt = 1) ∧ ((1 : Int32).toInt = 1 → 0 ≤ a1.toInt ∧ a1.toInt ≤ 4 ∧ 0 ≤ a2.toInt ∧ a2.toInt ≤ 5) from by have q_16 : (1 : Int32).toInt = (1 : Int) := (iL (1) (1) rfl); omega)
        · have q_17 : (0 : Int32).toInt = (0 : Int) := (iL (0) (0) rfl)
          exact zH_some (show ((0 : Int32).toInt = 0 ∨ (0 : Int32).toInt = 1) ∧ ((0 : Int32).toInt = 1 → 0 ≤ a1.toInt ∧ a1.toInt ≤ 4 ∧ 0 ≤ a2.toInt ∧ a2.toInt ≤ 5) from by have q_18 : (0 : Int32).toInt = (0 : Int) := (iL (0) (0) rfl); omega)
theorem tX1_areGates  {p0 : Nat} {a1 : Int32} {μ : gM}    : zH (fX1_areGates p0 a1 μ) (fun v => v.toInt = 0 ∨ v.toInt = 1) := by
  unfold fX1_areGates
  refine zH_ltc (rfl : a1.toInt = _) (iL (0) (0) rfl) (fun c_1 => ?_) (fun c_1 => ?_)
  · have q_2 : (0 : Int32).toInt = (0 : Int) := (iL (0) (0) rfl)
    exact zH_some (show (0 : Int32).toInt = 0 ∨ (0 : Int32).toInt = 1 from by have q_3 : (0 : Int32).toInt = (0 : Int) := (iL (0) (0) rfl); omega)
  · refine zH_lec (rfl : ((1 : Int32) <<< ((μ (p0 + 1) 0) &&& 31)).toInt = _) (rfl : a1.toInt = _) (fun c_4 => ?_) (fun c_4 => ?_)
    · have q_5 : (0 : Int32).toInt = (0 : Int) := (iL (0) (0) rfl)
      exact zH_some (show (0 : Int32).toInt = 0 ∨ (0 : Int32).toInt = 1 from by have q_6 : (0 : Int32).toInt = (0 : Int) := (iL (0) (0) rfl); omega)
    · have q_7 : (1 : Int32).toInt = (1 : Int) := (iL (1) (1) rfl)
      exact zH_some (show (1 : Int32).toInt = 0 ∨ (1 : Int32).toInt = 1 from by have q_8 : (1 : Int32).toInt = (1 : Int) := (iL (1) (1) rfl); omega)
theorem tX1_areLinks  {p0 : Nat} {a1 : Int32} {μ : gM}    : zH (fX1_areLinks p0 a1 μ) (fun v => v.toInt = 0 ∨ v.toInt = 1) := by
  unfold fX1_areLinks
  refine zH_ltc (rfl : a1.toInt = _) (iL (0) (0) rfl) (fun c_1 => ?_) (fun c_1 => ?_)
  · have q_2 : (0 : Int32).toInt = (0 : Int) := (iL (0) (0) rfl)
    exact zH_some (show (0 : Int32).toInt = 0 ∨ (0 : Int32).toInt = 1 from by have q_3 : (0 : Int32).toInt = (0 : Int) := (iL (0) (0) rfl); omega)
  · refine zH_lec (rfl : ((1 : Int32) <<< ((μ (p0 + 1) 1) &&& 31)).toInt = _) (rfl : a1.toInt = _) (fun c_4 => ?_) (fun c_4 => ?_)
    · have q_5 : (0 : Int32).toInt = (0 : Int) := (iL (0) (0) rfl)
      exact zH_some (show (0 : Int32).toInt = 0 ∨ (0 : Int32).toInt = 1 from by have q_6 : (0 : Int32).toInt = (0 : Int) := (iL (0) (0) rfl); omega)
    · have q_7 : (1 : Int32).toInt = (1 : Int) := (iL (1) (1) rfl)
      exact zH_some (show (1 : Int32).toInt = 0 ∨ (1 : Int32).toInt = 1 from by have q_8 : (1 : Int32).toInt = (1 : Int) := (iL (1) (1) rfl); omega)
theorem tX1_countMembers_l4  {p0 : Nat}   : ∀ (n : Nat) (y1 : Int32) (y2 : Int32) (μ : gM), 0 ≤ y2.toInt → y2.toInt ≤ 5 → 5 - y2.toInt < (n : Int) → zH (fX1_countMembers_l4 p0 n y1 y2 μ) (fun _ => True) := by
  intro n
  induction n with
  | zero =>
    intro y1 y2 μ  g0 g1 gm
    exact absurd gm (by omega)
  | succ n ih =>
    intro y1 y2 μ  g0 g1 gm
    rw [fX1_countMembers_l4]
    refine zH_lec (iL (5) (5) rfl) (rfl : y2.toInt = _) (fun c_1 => ?_) (fun c_1 => ?_)
    · exact zH_some trivial
    · refine zH_ck (zIn (rfl : y2.toInt = _) (by omega) (by omega)) ?_
      refine zH_bd (tJ6_bitCount_0f7a4) (fun x_2 p_3 => ?_)
      have q_4 : x_2.toInt ≤ 63 := p_3
      refine zH_lt (fun x_5 e_6 => ?_)
      refine zH_lt (fun x_7 e_8 => ?_)
      have q_9 : x_7.toInt = (y2.toInt + (1 : Int)) := (congrArg Int32.toInt e_8).trans (iA (rfl : y2.toInt = _) (iL (1) (1) rfl) (by omega) (by omega))
      exact ih x_5 x_7 μ (by omega) (by omega) (by omega)
theorem tX1_countMembers  {p0 : Nat} {μ : gM}    : zH (fX1_countMembers p0 μ) (fun _ => True) := by
  unfold fX1_countMembers
  have q_1 : (0 : Int32).toInt = (0 : Int) := (iL (0) (0) rfl)
  exact zH_mono (tX1_countMembers_l4 100000 (0 : Int32) (0 : Int32) μ (by omega) (by omega) (by omega)) (fun _ _ => trivial)
theorem tX1_find_l2  {p0 : Nat}   : ∀ (n : Nat) (y1 : Int32) (y2 : Int32) (y3 : Int32) (μ : gM), NB p0 μ → 0 ≤ y3.toInt → y3.toInt ≤ 8 → 8 - y3.toInt < (n : Int) → zH (fX1_find_l2 p0 n y1 y2 y3 μ) (fun v => v.toInt = -1 ∨ (0 ≤ v.toInt ∧ v.toInt < 8 ∧ (y1.toInt = 0 → v.toInt < 6) ∧ (y1.toInt = 2 → v.toInt < 5))) := by
  intro n
  induction n with
  | zero =>
    intro y1 y2 y3 μ  h g0 g1 gm
    exact absurd gm (by omega)
  | succ n ih =>
    intro y1 y2 y3 μ  h g0 g1 gm
    rw [fX1_find_l2]
    refine zH_ltc (rfl : y1.toInt = _) (iL (0) (0) rfl) (fun c_1 => ?_) (fun c_1 => ?_)
    · have q_2 : (-1 : Int32).toInt = (-1 : Int) := (iL (-1) (-1) rfl)
      exact zH_some (show (-1 : Int32).toInt = -1 ∨ (0 ≤ (-1 : Int32).toInt ∧ (-1 : Int32).toInt < 8 ∧ (y1.toInt = 0 → (-1 : Int32).toInt < 6) ∧ (y1.toInt = 2 → (-1 : Int32).toInt < 5)) from by have q_3 : (-1 : Int32).toInt = (-1 : Int) := (iL (-1) (-1) rfl); omega)
    · refine zH_ltc (iL (2) (2) rfl) (rfl : y1.toInt = _) (fun c_4 => ?_) (fun c_4 => ?_)
      · have q_5 : (-1 : Int32).toInt = (-1 : Int) := (iL (-1) (-1) rfl)
        exact zH_some (show (-1 : Int32).toInt = -1 ∨ (0 ≤ (-1 : Int32).toInt ∧ (-1 : Int32).toInt < 8 ∧ (y1.toInt = 0 → (-1 : Int32).toInt < 6) ∧ (y1.toInt = 2 → (-1 : Int32).toInt < 5)) from by have q_6 : (-1 : Int32).toInt = (-1 : Int) := (iL (-1) (-1) rfl); omega)
      · refine zH_ck (zIn (rfl : y1.toInt = _) (by omega) (by omega)) ?_
        have nc := h.c (a := y1) (by omega) (by omega)
        refine zH_lec (rfl : (μ (p0 + 1) (y1).toNatClampNeg).toInt = _) (rfl : y3.toInt = _) (fun c_7 => ?_) (fun c_7 => ?_)
        · have q_8 : (-1 : Int32).toInt = (-1 : Int) := (iL (-1) (-1) rfl)
          exact zH_some (show (-1 : Int32).toInt = -1 ∨ (0 ≤ (-1 : Int32).toInt ∧ (-1 : Int32).toInt < 8 ∧ (y1.toInt = 0 → (-1 : Int32).toInt < 6) ∧ (y1.toInt = 2 → (-1 : Int32).toInt < 5)) from by have q_9 : (-1 : Int32).toInt = (-1 : Int) := (iL (-1) (-1) rfl); omega)
        · refine zH_lec (iL (8) (8) rfl) (rfl : y3.toInt = _) (fun c_10 => ?_) (fun c_10 => ?_)
          · have q_11 : (-1 : Int32).toInt = (-1 : Int) := (iL (-1) (-1) rfl)
            exact zH_some (show (-1 : Int32).toInt = -1 ∨ (0 ≤ (-1 : Int32).toInt ∧ (-1 : Int32).toInt < 8 ∧ (y1.toInt = 0 → (-1 : Int32).toInt < 6) ∧ (y1.toInt = 2 → (-1 : Int32).toInt < 5)) from by have q_12 : (-1 : Int32).toInt = (-1 : Int) := (iL (-1) (-1) rfl); omega)
          · refine zH_ck (zIn (iA (iM (rfl : y1.toInt = _) (iL (8) (8) rfl) (by omega) (by omega)) (rfl : y3.toInt = _) (by omega) (by omega)) (by omega) (by omega)) ?_
            refine zH_eqc (rfl : (μ (p0 + 2) (((y1 * (8 : Int32)) + y3)).toNatClampNeg).toInt = _) (rfl : y2.toInt = _) (fun c_13e c_13 => ?_) (fun c_13e c_13 => ?_)
            · exact zH_some (show y3.toInt = -1 ∨ (0 ≤ y3.toInt ∧ y3.toInt < 8 ∧ (y1.toInt = 0 → y3.toInt < 6) ∧ (y1.toInt = 2 → y3.toInt < 5)) from by have q_14 : (y3).toInt = y3.toInt := (rfl : y3.toInt = _); omega)
            · refine zH_lt (fun x_15 e_16 => ?_)
              have q_17 : x_15.toInt = (y3.toInt + (1 : Int)) := (congrArg Int32.toInt e_16).trans (iA (rfl : y3.toInt = _) (iL (1) (1) rfl) (by omega) (by omega))
              exact zH_mono (ih y1 y2 x_15 μ h (by omega) (by omega) (by omega)) (fun r_19 p_18 => show r_19.toInt = -1 ∨ (0 ≤ r_19.toInt ∧ r_19.toInt < 8 ∧ (y1.toInt = 0 → r_19.toInt < 6) ∧ (y1.toInt = 2 → r_19.toInt < 5)) from by have q_20 : r_19.toInt = -1 ∨ (0 ≤ r_19.toInt ∧ r_19.toInt < 8 ∧ (y1.toInt = 0 → r_19.toInt < 6) ∧ (y1.toInt = 2 → r_19.toInt < 5)) := p_18; omega)
theorem tX1_find  {p0 : Nat} {a1 : Int32} {a2 : Int32} {μ : gM}  (h : NB p0 μ)  : zH (fX1_find p0 a1 a2 μ) (fun v => v.toInt = -1 ∨ (0 ≤ v.toInt ∧ v.toInt < 8 ∧ (a1.toInt = 0 → v.toInt < 6) ∧ (a1.toInt = 2 → v.toInt < 5))) := by
  unfold fX1_find
  have q_1 : (0 : Int32).toInt = (0 : Int) := (iL (0) (0) rfl)
  exact zH_mono (tX1_find_l2 100000 a1 a2 (0 : Int32) μ h (by omega) (by omega) (by omega)) (fun r_3 p_2 => show r_3.toInt = -1 ∨ (0 ≤ r_3.toInt ∧ r_3.toInt < 8 ∧ (a1.toInt = 0 → r_3.toInt < 6) ∧ (a1.toInt = 2 → r_3.toInt < 5)) from by have q_4 : r_3.toInt = -1 ∨ (0 ≤ r_3.toInt ∧ r_3.toInt < 8 ∧ (a1.toInt = 0 → r_3.toInt < 6) ∧ (a1.toInt = 2 → r_3.toInt < 5)) := p_2; omega)
theorem tX1_isTold  {p0 : Nat} {a1 : Int32} {μ : gM}  (h : NB p0 μ)  : zH (fX1_isTold p0 a1 μ) (fun v => v.toInt = 0 ∨ v.toInt = 1) := by
  unfold fX1_isTold
  have q_1 : (0 : Int32).toInt = (0 : Int) := (iL (0) (0) rfl)
  refine zH_bd (tX1_find h) (fun x_2 p_3 => ?_)
  have q_4 : x_2.toInt = -1 ∨ (0 ≤ x_2.toInt ∧ x_2.toInt < 8 ∧ ((0 : Int32).toInt = 0 → x_2.toInt < 6) ∧ ((0 : Int32).toInt = 2 → x_2.toInt < 5)) := p_3
  refine zH_eqc (rfl : x_2.toInt = _) (iL (-1) (-1) rfl) (fun c_5e c_5 => ?_) (fun c_5e c_5 => ?_)
  · have q_6 : (1 : Int32).toInt = (1 : Int) := (iL (1) (1) rfl)
    refine zH_bd (tX1_find h) (fun x_7 p_8 => ?_)
    have q_9 : x_7.toInt = -1 ∨ (0 ≤ x_7.toInt ∧ x_7.toInt < 8 ∧ ((1 : Int32).toInt = 0 → x_7.toInt < 6) ∧ ((1 : Int32).toInt = 2 → x_7.toInt < 5)) := p_8
    refine zH_eqc (rfl : x_7.toInt = _) (iL (-1) (-1) rfl) (fun c_10e c_10 => ?_) (fun c_10e c_10 => ?_)
    · have q_11 : (2 : Int32).toInt = (2 : Int) := (iL (2) (2) rfl)
      refine zH_bd (tX1_find h) (fun x_12 p_13 => ?_)
      have q_14 : x_12.toInt = -1 ∨ (0 ≤ x_12.toInt ∧ x_12.toInt < 8 ∧ ((2 : Int32).toInt = 0 → x_12.toInt < 6) ∧ ((2 : Int32).toInt = 2 → x_12.toInt < 5)) := p_13
      refine zH_eqc (rfl : x_12.toInt = _) (iL (-1) (-1) rfl) (fun c_15e c_15 => ?_) (fun c_15e c_15 => ?_)
      · exact zH_some (show (0 : Int32).toInt = 0 ∨ (0 : Int32).toInt = 1 from by have q_16 : (0 : Int32).toInt = (0 : Int) := (iL (0) (0) rfl); omega)
      · exact zH_some (show (1 : Int32).toInt = 0 ∨ (1 : Int32).toInt = 1 from by have q_17 : (1 : Int32).toInt = (1 : Int) := (iL (1) (1) rfl); omega)
    · exact zH_some (show (1 : Int32).toInt = 0 ∨ (1 : Int32).toInt = 1 from by have q_18 : (1 : Int32).toInt = (1 : Int) := (iL (1) (1) rfl); omega)
  · have q_19 : (1 : Int32).toInt = (1 : Int) := (iL (1) (1) rfl)
    exact zH_some (show (1 : Int32).toInt = 0 ∨ (1 : Int32).toInt = 1 from by have q_20 : (1 : Int32).toInt = (1 : Int) := (iL (1) (1) rfl); omega)
theorem tX1_room  {a1 : Int32} {μ : gM}    : zH (fX1_room a1 μ) (fun v => (a1.toInt = 0 → v.toInt = 6) ∧ (a1.toInt = 1 → v.toInt = 8) ∧ (a1.toInt = 2 → v.toInt = 5)) := by
  unfold fX1_room
  refine zH_eqc (rfl : a1.toInt = _) (iL (0) (0) rfl) (fun c_1e c_1 => ?_) (fun c_1e c_1 => ?_)
  · have q_2 : (6 : Int32).toInt = (6 : Int) := (iL (6) (6) rfl)
    exact zH_some (show (a1.toInt = 0 → (6 : Int32).toInt = 6) ∧ (a1.toInt = 1 → (6 : Int32).toInt = 8) ∧ (a1.toInt = 2 → (6 : Int32).toInt = 5) from by have q_3 : (6 : Int32).toInt = (6 : Int) := (iL (6) (6) rfl); omega)
  · refine zH_eqc (rfl : a1.toInt = _) (iL (1) (1) rfl) (fun c_4e c_4 => ?_) (fun c_4e c_4 => ?_)
    · have q_5 : (8 : Int32).toInt = (8 : Int) := (iL (8) (8) rfl)
      exact zH_some (show (a1.toInt = 0 → (8 : Int32).toInt = 6) ∧ (a1.toInt = 1 → (8 : Int32).toInt = 8) ∧ (a1.toInt = 2 → (8 : Int32).toInt = 5) from by have q_6 : (8 : Int32).toInt = (8 : Int) := (iL (8) (8) rfl); omega)
    · have q_7 : (5 : Int32).toInt = (5 : Int) := (iL (5) (5) rfl)
      exact zH_some (show (a1.toInt = 0 → (5 : Int32).toInt = 6) ∧ (a1.toInt = 1 → (5 : Int32).toInt = 8) ∧ (a1.toInt = 2 → (5 : Int32).toInt = 5) from by have q_8 : (5 : Int32).toInt = (5 : Int) := (iL (5) (5) rfl); omega)
theorem tX1_isTracked_l2  {p0 : Nat}   : ∀ (n : Nat) (y1 : Int32) (y2 : Int32) (y3 : Int32) (μ : gM), 0 ≤ y3.toInt → y3.toInt ≤ 24 → 24 - y3.toInt < (n : Int) → zH (fX1_isTracked_l2 p0 n y1 y2 y3 μ) (fun v => v.toInt = 0 ∨ v.toInt = 1) := by
  intro n
  induction n with
  | zero =>
    intro y1 y2 y3 μ  g0 g1 gm
    exact absurd gm (by omega)
  | succ n ih =>
    intro y1 y2 y3 μ  g0 g1 gm
    rw [fX1_isTracked_l2]
    refine zH_lec (rfl : (μ p0 10).toInt = _) (rfl : y3.toInt = _) (fun c_1 => ?_) (fun c_1 => ?_)
    · have q_2 : (0 : Int32).toInt = (0 : Int) := (iL (0) (0) rfl)
      exact zH_some (show (0 : Int32).toInt = 0 ∨ (0 : Int32).toInt = 1 from by have q_3 : (0 : Int32).toInt = (0 : Int) := (iL (0) (0) rfl); omega)
    · refine zH_lec (iL (24) (24) rfl) (rfl : y3.toInt = _) (fun c_4 => ?_) (fun c_4 => ?_)
      · have q_5 : (0 : Int32).toInt = (0 : Int) := (iL (0) (0) rfl)
        exact zH_some (show (0 : Int32).toInt = 0 ∨ (0 : Int32).toInt = 1 from by have q_6 : (0 : Int32).toInt = (0 : Int) := (iL (0) (0) rfl); omega)
      · refine zH_ck (zIn (rfl : y3.toInt = _) (by omega) (by omega)) ?_
        refine zH_eqc (rfl : (μ (p0 + 10) (y3).toNatClampNeg).toInt = _) (rfl : y1.toInt = _) (fun c_7e c_7 => ?_) (fun c_7e c_7 => ?_)
        · refine zH_ck (zIn (rfl : y3.toInt = _) (by omega) (by omega)) ?_
          refine zH_eqc (rfl : (μ (p0 + 11) (y3).toNatClampNeg).toInt = _) (rfl : y2.toInt = _) (fun c_8e c_8 => ?_) (fun c_8e c_8 => ?_)
          · have q_9 : (1 : Int32).toInt = (1 : Int) := (iL (1) (1) rfl)
            exact zH_some (show (1 : Int32).toInt = 0 ∨ (1 : Int32).toInt = 1 from by have q_10 : (1 : Int32).toInt = (1 : Int) := (iL (1) (1) rfl); omega)
          · refine zH_lt (fun x_11 e_12 => ?_)
            have q_13 : x_11.toInt = (y3.toInt + (1 : Int)) := (congrArg Int32.toInt e_12).trans (iA (rfl : y3.toInt = _) (iL (1) (1) rfl) (by omega) (by omega))
            exact zH_mono (ih y1 y2 x_11 μ (by omega) (by omega) (by omega)) (fun r_15 p_14 => show r_15.toInt = 0 ∨ r_15.toInt = 1 from by have q_16 : r_15.toInt = 0 ∨ r_15.toInt = 1 := p_14; omega)
        · refine zH_lt (fun x_17 e_18 => ?_)
          have q_19 : x_17.toInt = (y3.toInt + (1 : Int)) := (congrArg Int32.toInt e_18).trans (iA (rfl : y3.toInt = _) (iL (1) (1) rfl) (by omega) (by omega))
          exact zH_mono (ih y1 y2 x_17 μ (by omega) (by omega) (by omega)) (fun r_21 p_20 => show r_21.toInt = 0 ∨ r_21.toInt = 1 from by have q_22 : r_21.toInt = 0 ∨ r_21.toInt = 1 := p_20; omega)
theorem tX1_isTracked  {p0 : Nat} {a1 : Int32} {a2 : Int32} {μ : gM}    : zH (fX1_isTracked p0 a1 a2 μ) (fun v => v.toInt = 0 ∨ v.toInt = 1) := by
  unfold fX1_isTracked
  have q_1 : (0 : Int32).toInt = (0 : Int) := (iL (0) (0) rfl)
  exact zH_mono (tX1_isTracked_l2 100000 a1 a2 (0 : Int32) μ (by omega) (by omega) (by omega)) (fun r_3 p_2 => show r_3.toInt = 0 ∨ r_3.toInt = 1 from by have q_4 : r_3.toInt = 0 ∨ r_3.toInt = 1 := p_2; omega)
theorem tX1_weightOf_l17  {p0 : Nat}   : ∀ (n : Nat) (y1 : Int32) (y3 : Int32) (y4 : Int32) (y5 : Int32) (μ : gM), 0 ≤ y5.toInt → y5.toInt ≤ 24 → 24 - y5.toInt < (n : Int) → zH (fX1_weightOf_l17 p0 n y1 y3 y4 y5 μ) (fun _ => True) := by
  intro n
  induction n with
  | zero =>
    intro y1 y3 y4 y5 μ  g0 g1 gm
    exact absurd gm (by omega)
  | succ n ih =>
    intro y1 y3 y4 y5 μ  g0 g1 gm
    rw [fX1_weightOf_l17]
    refine zH_lec (rfl : (μ p0 10).toInt = _) (rfl : y5.toInt = _) (fun c_1 => ?_) (fun c_1 => ?_)
    · unfold fX1_weightOf_n77
      refine zH_lec (iL (1) (1) rfl) (rfl : y4.toInt = _) (fun c_2 => ?_) (fun c_2 => ?_)
      · exact zH_some trivial
      · exact zH_some trivial
    · refine zH_lec (iL (24) (24) rfl) (rfl : y5.toInt = _) (fun c_3 => ?_) (fun c_3 => ?_)
      · unfold fX1_weightOf_n77
        refine zH_lec (iL (1) (1) rfl) (rfl : y4.toInt = _) (fun c_4 => ?_) (fun c_4 => ?_)
        · exact zH_some trivial
        · exact zH_some trivial
      · refine zH_ck (zIn (rfl : y5.toInt = _) (by omega) (by omega)) ?_
        refine zH_eqc (rfl : (μ (p0 + 10) (y5).toNatClampNeg).toInt = _) (rfl : y1.toInt = _) (fun c_5e c_5 => ?_) (fun c_5e c_5 => ?_)
        · refine zH_ck (zIn (rfl : y5.toInt = _) (by omega) (by omega)) ?_
          refine zH_eqc (rfl : ((y3 >>> ((μ (p0 + 11) (y5).toNatClampNeg) &&& 31)) &&& (1 : Int32)).toInt = _) (iL (1) (1) rfl) (fun c_6e c_6 => ?_) (fun c_6e c_6 => ?_)
          · refine zH_ck (zIn (rfl : y5.toInt = _) (by omega) (by omega)) ?_
            refine zH_lt (fun x_7 e_8 => ?_)
            refine zH_lt (fun x_9 e_10 => ?_)
            have q_11 : x_9.toInt = (y5.toInt + (1 : Int)) := (congrArg Int32.toInt e_10).trans (iA (rfl : y5.toInt = _) (iL (1) (1) rfl) (by omega) (by omega))
            exact ih y1 y3 x_7 x_9 μ (by omega) (by omega) (by omega)
          · refine zH_lt (fun x_12 e_13 => ?_)
            have q_14 : x_12.toInt = (y5.toInt + (1 : Int)) := (congrArg Int32.toInt e_13).trans (iA (rfl : y5.toInt = _) (iL (1) (1) rfl) (by omega) (by omega))
            exact ih y1 y3 y4 x_12 μ (by omega) (by omega) (by omega)
        · refine zH_lt (fun x_15 e_16 => ?_)
          have q_17 : x_15.toInt = (y5.toInt + (1 : Int)) := (congrArg Int32.toInt e_16).trans (iA (rfl : y5.toInt = _) (iL (1) (1) rfl) (by omega) (by omega))
          exact ih y1 y3 y4 x_15 μ (by omega) (by omega) (by omega)
theorem tX1_weightOf  {p0 : Nat} {a1 : Int32} {a2 : Int32} {a3 : Int32} {μ : gM}    : zH (fX1_weightOf p0 a1 a2 a3 μ) (fun _ => True) := by
  unfold fX1_weightOf
  refine zH_eqc (rfl : a2.toInt = _) (iL (255) (255) rfl) (fun c_1e c_1 => ?_) (fun c_1e c_1 => ?_)
  · exact zH_some trivial
  · have q_2 : (0 : Int32).toInt = (0 : Int) := (iL (0) (0) rfl)
    exact zH_mono (tX1_weightOf_l17 100000 a1 a3 a2 (0 : Int32) μ (by omega) (by omega) (by omega)) (fun _ _ => trivial)
theorem tX1_patience  {p0 : Nat} {a1 : Int32} {a2 : Int32} {μ : gM}   (g0 : 0 ≤ a1.toInt) (g1 : a1.toInt ≤ 4) : zH (fX1_patience p0 a1 a2 μ) (fun _ => True) := by
  unfold fX1_patience
  refine zH_ck (zIn (rfl : a1.toInt = _) (by omega) (by omega)) ?_
  exact zH_some trivial
theorem tX7_readWord_l5 {C : gM}    (hC : hL C) : ∀ (n : Nat) (μ : gM), JL C μ → 1500 - (μ 1 3).toInt < (n : Int) → zH (fX7_readWord_l5  n μ) (fun ν => JL C ν) := by
  intro n
  induction n with
  | zero =>
    intro μ  h gm
    have f_1 : 0 ≤ (μ 1 3).toInt ∧ (μ 1 3).toInt ≤ 1500 := h.2.2
    exact absurd gm (by omega)
  | succ n ih =>
    intro μ  h gm
    rw [fX7_readWord_l5]
    have f_2 : 0 ≤ (μ 1 3).toInt ∧ (μ 1 3).toInt ≤ 1500 := h.2.2
    have f_4 : 0 ≤ (μ 1 2).toInt ∧ (μ 1 2).toInt ≤ 1500 := h.lenI hC
    refine zH_lec (rfl : (μ 1 2).toInt = _) (rfl : (μ 1 3).toInt = _) (fun c_3 => ?_) (fun c_3 => ?_)
    · unfold fX7_readWord_n106
      refine zH_ltc (iL (6) (6) rfl) (rfl : ((μ 1 3) - (μ 1 5)).toInt = _) (fun c_5 => ?_) (fun c_5 => ?_)
      · refine zH_lt (fun μ_6 e_7 => ?_)
        have h_8 : JL C μ_6 := by rw [e_7]; exact JL.up h (by decide) (fun e => absurd e (by decide))
        have q_9 : (μ_6 1 3).toInt = (μ 1 3).toInt := by rw [e_7]; first | done | rfl
        exact zH_some h_8
      · refine zH_lt (fun μ_10 e_11 => ?_)
        have h_12 : JL C μ_10 := by rw [e_11]; exact JL.up h (by decide) (fun e => absurd e (by decide))
        have q_13 : (μ_10 1 3).toInt = (μ 1 3).toInt := by rw [e_11]; first | done | rfl
        exact zH_some h_12
    · refine zH_ck (zIn (rfl : (μ 1 3).toInt = _) (by omega) (by omega)) ?_
      refine zH_ltc (rfl : (μ 2 ((μ 1 3)).toNatClampNeg).toInt = _) (iL (97) (97) rfl) (fun c_14 => ?_) (fun c_14 => ?_)
      · unfold fX7_readWord_n106
        refine zH_ltc (iL (6) (6) rfl) (rfl : ((μ 1 3) - (μ 1 5)).toInt = _) (fun c_15 => ?_) (fun c_15 => ?_)
        · refine zH_lt (fun μ_16 e_17 => ?_)
          have h_18 : JL C μ_16 := by rw [e_17]; exact JL.up h (by decide) (fun e => absurd e (by decide))
          have q_19 : (μ_16 1 3).toInt = (μ 1 3).toInt := by rw [e_17]; first | done | rfl
          exact zH_some h_18
        · refine zH_lt (fun μ_20 e_21 => ?_)
          have h_22 : JL C μ_20 := by rw [e_21]; exact JL.up h (by decide) (fun e => absurd e (by decide))
          have q_23 : (μ_20 1 3).toInt = (μ 1 3).toInt := by rw [e_21]; first | done | rfl
          exact zH_some h_22
      · refine zH_ck (zIn (rfl : (μ 1 3).toInt = _) (by omega) (by omega)) ?_
        refine zH_ltc (iL (122) (122) rfl) (rfl : (μ 2 ((μ 1 3)).toNatClampNeg).toInt = _) (fun c_24 => ?_) (fun c_24 => ?_)
        · unfold fX7_readWord_n106
          refine zH_ltc (iL (6) (6) rfl) (rfl : ((μ 1 3) - (μ 1 5)).toInt = _) (fun c_25 => ?_) (fun c_25 => ?_)
          · refine zH_lt (fun μ_26 e_27 => ?_)
            have h_28 : JL C μ_26 := by rw [e_27]; exact JL.up h (by decide) (fun e => absurd e (by decide))
            have q_29 : (μ_26 1 3).toInt = (μ 1 3).toInt := by rw [e_27]; first | done | rfl
            exact zH_some h_28
          · refine zH_lt (fun μ_30 e_31 => ?_)
            have h_32 : JL C μ_30 := by rw [e_31]; exact JL.up h (by decide) (fun e => absurd e (by decide))
            have q_33 : (μ_30 1 3).toInt = (μ 1 3).toInt := by rw [e_31]; first | done | rfl
            exact zH_some h_32
        · refine zH_lec (iL (6) (6) rfl) (rfl : ((μ 1 3) - (μ 1 5)).toInt = _) (fun c_34 => ?_) (fun c_34 => ?_)
          · unfold fX7_readWord_n93
            refine zH_lt (fun μ_35 e_36 => ?_)
            have h_37 : JL C μ_35 := by rw [e_36]; exact JL.up h (by decide) (fun _ => show 0 ≤ ((μ 1 3) + (1 : Int32)).toInt ∧ ((μ 1 3) + (1 : Int32)).toInt ≤ 1500 from by have q_38 : ((μ 1 3) + (1 : Int32)).toInt = ((μ 1 3).toInt + (1 : Int)) := (iA (rfl : (μ 1 3).toInt = _) (iL (1) (1) rfl) (by omega) (by omega)); omega)
            have q_39 : (μ_35 1 3).toInt = ((μ 1 3).toInt + (1 : Int)) := by rw [e_36]; exact (show ((μ 1 3) + (1 : Int32)).toInt = _ from (iA (rfl : (μ 1 3).toInt = _) (iL (1) (1) rfl) (by omega) (by omega)))
            exact ih μ_35 h_37 (by omega)
          · refine zH_ck (zIn (rfl : (μ 1 3).toInt = _) (by omega) (by omega)) ?_
            refine zH_lt (fun μ_40 e_41 => ?_)
            have h_42 : JL C μ_40 := by rw [e_41]; exact JL.up h (by decide) (fun e => absurd e (by decide))
            have q_43 : (μ_40 1 3).toInt = (μ 1 3).toInt := by rw [e_41]; first | done | rfl
            unfold fX7_readWord_n93
            have f_47 : 0 ≤ (μ_40 1 3).toInt ∧ (μ_40 1 3).toInt ≤ 1500 := h_42.2.2
            refine zH_lt (fun μ_44 e_45 => ?_)
            have h_46 : JL C μ_44 := by rw [e_45]; exact JL.up h_42 (by decide) (fun _ => show 0 ≤ ((μ_40 1 3) + (1 : Int32)).toInt ∧ ((μ_40 1 3) + (1 : Int32)).toInt ≤ 1500 from by have q_48 : ((μ_40 1 3) + (1 : Int32)).toInt = ((μ_40 1 3).toInt + (1 : Int)) := (iA (rfl : (μ_40 1 3).toInt = _) (iL (1) (1) rfl) (by omega) (by omega)); omega)
            have q_49 : (μ_44 1 3).toInt = ((μ_40 1 3).toInt + (1 : Int)) := by rw [e_45]; exact (show ((μ_40 1 3) + (1 : Int32)).toInt = _ from (iA (rfl : (μ_40 1 3).toInt = _) (iL (1) (1) rfl) (by omega) (by omega)))
            exact ih μ_44 h_46 (by omega)
theorem tX7_readWord {C : gM} {μ : gM}  (hC : hL C) (h : JL C μ)  : zH (fX7_readWord μ) (fun ν => JL C ν) := by
  unfold fX7_readWord
  refine zH_lt (fun μ_1 e_2 => ?_)
  have h_3 : JL C μ_1 := by rw [e_2]; exact JL.up h (by decide) (fun e => absurd e (by decide))
  have q_4 : (μ_1 1 3).toInt = (μ 1 3).toInt := by rw [e_2]; first | done | rfl
  have f_5 : 0 ≤ (μ_1 1 3).toInt ∧ (μ_1 1 3).toInt ≤ 1500 := h_3.2.2
  exact zH_mono (tX7_readWord_l5 hC 100000 μ_1 h_3 (by omega)) (fun r_7 p_6 => p_6)
theorem tX7_readNumber_l5 {C : gM}    (hC : hL C) : ∀ (n : Nat) (μ : gM), JL C μ → 1500 - (μ 1 3).toInt < (n : Int) → zH (fX7_readNumber_l5  n μ) (fun ν => JL C ν) := by
  intro n
  induction n with
  | zero =>
    intro μ  h gm
    have f_1 : 0 ≤ (μ 1 3).toInt ∧ (μ 1 3).toInt ≤ 1500 := h.2.2
    exact absurd gm (by omega)
  | succ n ih =>
    intro μ  h gm
    rw [fX7_readNumber_l5]
    have f_2 : 0 ≤ (μ 1 3).toInt ∧ (μ 1 3).toInt ≤ 1500 := h.2.2
    have f_4 : 0 ≤ (μ 1 2).toInt ∧ (μ 1 2).toInt ≤ 1500 := h.lenI hC
    refine zH_lec (rfl : (μ 1 2).toInt = _) (rfl : (μ 1 3).toInt = _) (fun c_3 => ?_) (fun c_3 => ?_)
    · unfold fX7_readNumber_n94
      refine zH_ltc (iL (4) (4) rfl) (rfl : ((μ 1 3) - (μ 1 5)).toInt = _) (fun c_5 => ?_) (fun c_5 => ?_)
      · refine zH_lt (fun μ_6 e_7 => ?_)
        have h_8 : JL C μ_6 := by rw [e_7]; exact JL.up h (by decide) (fun e => absurd e (by decide))
        have q_9 : (μ_6 1 3).toInt = (μ 1 3).toInt := by rw [e_7]; first | done | rfl
        exact zH_some h_8
      · refine zH_lt (fun μ_10 e_11 => ?_)
        have h_12 : JL C μ_10 := by rw [e_11]; exact JL.up h (by decide) (fun e => absurd e (by decide))
        have q_13 : (μ_10 1 3).toInt = (μ 1 3).toInt := by rw [e_11]; first | done | rfl
        exact zH_some h_12
    · refine zH_ck (zIn (rfl : (μ 1 3).toInt = _) (by omega) (by omega)) ?_
      refine zH_ltc (rfl : (μ 2 ((μ 1 3)).toNatClampNeg).toInt = _) (iL (48) (48) rfl) (fun c_14 => ?_) (fun c_14 => ?_)
      · unfold fX7_readNumber_n94
        refine zH_ltc (iL (4) (4) rfl) (rfl : ((μ 1 3) - (μ 1 5)).toInt = _) (fun c_15 => ?_) (fun c_15 => ?_)
        · refine zH_lt (fun μ_16 e_17 => ?_)
          have h_18 : JL C μ_16 := by rw [e_17]; exact JL.up h (by decide) (fun e => absurd e (by decide))
          have q_19 : (μ_16 1 3).toInt = (μ 1 3).toInt := by rw [e_17]; first | done | rfl
          exact zH_some h_18
        · refine zH_lt (fun μ_20 e_21 => ?_)
          have h_22 : JL C μ_20 := by rw [e_21]; exact JL.up h (by decide) (fun e => absurd e (by decide))
          have q_23 : (μ_20 1 3).toInt = (μ 1 3).toInt := by rw [e_21]; first | done | rfl
          exact zH_some h_22
      · refine zH_ck (zIn (rfl : (μ 1 3).toInt = _) (by omega) (by omega)) ?_
        refine zH_ltc (iL (57) (57) rfl) (rfl : (μ 2 ((μ 1 3)).toNatClampNeg).toInt = _) (fun c_24 => ?_) (fun c_24 => ?_)
        · unfold fX7_readNumber_n94
          refine zH_ltc (iL (4) (4) rfl) (rfl : ((μ 1 3) - (μ 1 5)).toInt = _) (fun c_25 => ?_) (fun c_25 => ?_)
          · refine zH_lt (fun μ_26 e_27 => ?_)
            have h_28 : JL C μ_26 := by rw [e_27]; exact JL.up h (by decide) (fun e => absurd e (by decide))
            have q_29 : (μ_26 1 3).toInt = (μ 1 3).toInt := by rw [e_27]; first | done | rfl
            exact zH_some h_28
          · refine zH_lt (fun μ_30 e_31 => ?_)
            have h_32 : JL C μ_30 := by rw [e_31]; exact JL.up h (by decide) (fun e => absurd e (by decide))
            have q_33 : (μ_30 1 3).toInt = (μ 1 3).toInt := by rw [e_31]; first | done | rfl
            exact zH_some h_32
        · refine zH_lec (iL (4) (4) rfl) (rfl : ((μ 1 3) - (μ 1 5)).toInt = _) (fun c_34 => ?_) (fun c_34 => ?_)
          · unfold fX7_readNumber_n81
            refine zH_lt (fun μ_35 e_36 => ?_)
            have h_37 : JL C μ_35 := by rw [e_36]; exact JL.up h (by decide) (fun _ => show 0 ≤ ((μ 1 3) + (1 : Int32)).toInt ∧ ((μ 1 3) + (1 : Int32)).toInt ≤ 1500 from by have q_38 : ((μ 1 3) + (1 : Int32)).toInt = ((μ 1 3).toInt + (1 : Int)) := (iA (rfl : (μ 1 3).toInt = _) (iL (1) (1) rfl) (by omega) (by omega)); omega)
            have q_39 : (μ_35 1 3).toInt = ((μ 1 3).toInt + (1 : Int)) := by rw [e_36]; exact (show ((μ 1 3) + (1 : Int32)).toInt = _ from (iA (rfl : (μ 1 3).toInt = _) (iL (1) (1) rfl) (by omega) (by omega)))
            exact ih μ_35 h_37 (by omega)
          · refine zH_ck (zIn (rfl : (μ 1 3).toInt = _) (by omega) (by omega)) ?_
            refine zH_lt (fun μ_40 e_41 => ?_)
            have h_42 : JL C μ_40 := by rw [e_41]; exact JL.up h (by decide) (fun e => absurd e (by decide))
            have q_43 : (μ_40 1 3).toInt = (μ 1 3).toInt := by rw [e_41]; first | done | rfl
            unfold fX7_readNumber_n81
            have f_47 : 0 ≤ (μ_40 1 3).toInt ∧ (μ_40 1 3).toInt ≤ 1500 := h_42.2.2
            refine zH_lt (fun μ_44 e_45 => ?_)
            have h_46 : JL C μ_44 := by rw [e_45]; exact JL.up h_42 (by decide) (fun _ => show 0 ≤ ((μ_40 1 3) + (1 : Int32)).toInt ∧ ((μ_40 1 3) + (1 : Int32)).toInt ≤ 1500 from by have q_48 : ((μ_40 1 3) + (1 : Int32)).toInt = ((μ_40 1 3).toInt + (1 : Int)) := (iA (rfl : (μ_40 1 3).toInt = _) (iL (1) (1) rfl) (by omega) (by omega)); omega)
            have q_49 : (μ_44 1 3).toInt = ((μ_40 1 3).toInt + (1 : Int)) := by rw [e_45]; exact (show ((μ_40 1 3) + (1 : Int32)).toInt = _ from (iA (rfl : (μ_40 1 3).toInt = _) (iL (1) (1) rfl) (by omega) (by omega)))
            exact ih μ_44 h_46 (by omega)
theorem tX7_readNumber {C : gM} {μ : gM}  (hC : hL C) (h : JL C μ)  : zH (fX7_readNumber μ) (fun ν => JL C ν) := by
  unfold fX7_readNumber
  refine zH_lt (fun μ_1 e_2 => ?_)
  have h_3 : JL C μ_1 := by rw [e_2]; exact JL.up h (by decide) (fun e => absurd e (by decide))
  have q_4 : (μ_1 1 3).toInt = (μ 1 3).toInt := by rw [e_2]; first | done | rfl
  have f_5 : 0 ≤ (μ_1 1 3).toInt ∧ (μ_1 1 3).toInt ≤ 1500 := h_3.2.2
  exact zH_mono (tX7_readNumber_l5 hC 100000 μ_1 h_3 (by omega)) (fun r_7 p_6 => p_6)
theorem tX7_advance_l25 {C : gM}    (hC : hL C) : ∀ (n : Nat) (y1 : Int32) (μ : gM), JL C μ → 1500 - (μ 1 3).toInt < (n : Int) → zH (fX7_advance_l25  n y1 μ) (fun ν => JL C ν) := by
  intro n
  induction n with
  | zero =>
    intro y1 μ  h gm
    have f_1 : 0 ≤ (μ 1 3).toInt ∧ (μ 1 3).toInt ≤ 1500 := h.2.2
    exact absurd gm (by omega)
  | succ n ih =>
    intro y1 μ  h gm
    rw [fX7_advance_l25]
    have f_2 : 0 ≤ (μ 1 3).toInt ∧ (μ 1 3).toInt ≤ 1500 := h.2.2
    have f_4 : 0 ≤ (μ 1 2).toInt ∧ (μ 1 2).toInt ≤ 1500 := h.lenI hC
    refine zH_lec (rfl : (μ 1 2).toInt = _) (rfl : (μ 1 3).toInt = _) (fun c_3 => ?_) (fun c_3 => ?_)
    · unfold fX7_advance_n77
      refine zH_lt (fun μ_5 e_6 => ?_)
      have h_7 : JL C μ_5 := by rw [e_6]; exact JL.up h (by decide) (fun e => absurd e (by decide))
      have q_8 : (μ_5 1 3).toInt = (μ 1 3).toInt := by rw [e_6]; first | done | rfl
      have f_10 : 0 ≤ (μ_5 1 3).toInt ∧ (μ_5 1 3).toInt ≤ 1500 := h_7.2.2
      have f_11 : 0 ≤ (μ_5 1 2).toInt ∧ (μ_5 1 2).toInt ≤ 1500 := h_7.lenI hC
      refine zH_ltc (rfl : (μ_5 1 3).toInt = _) (rfl : (μ_5 1 2).toInt = _) (fun c_9 => ?_) (fun c_9 => ?_)
      · refine zH_ck (zIn (rfl : (μ_5 1 3).toInt = _) (by omega) (by omega)) ?_
        refine zH_lt (fun x_12 e_13 => ?_)
        refine zH_ltc (rfl : x_12.toInt = _) (iL (97) (97) rfl) (fun c_14 => ?_) (fun c_14 => ?_)
        · unfold fX7_advance_n131
          refine zH_ltc (rfl : x_12.toInt = _) (iL (48) (48) rfl) (fun c_15 => ?_) (fun c_15 => ?_)
          · unfold fX7_advance_n150
            refine zH_eqc (rfl : x_12.toInt = _) (iL (59) (59) rfl) (fun c_16e c_16 => ?_) (fun c_16e c_16 => ?_)
            · unfold fX7_advance_n162
              refine zH_lt (fun μ_17 e_18 => ?_)
              have h_19 : JL C μ_17 := by rw [e_18]; exact JL.up h_7 (by decide) (fun e => absurd e (by decide))
              have q_20 : (μ_17 1 3).toInt = (μ_5 1 3).toInt := by rw [e_18]; first | done | rfl
              have f_24 : 0 ≤ (μ_17 1 3).toInt ∧ (μ_17 1 3).toInt ≤ 1500 := h_19.2.2
              refine zH_lt (fun μ_21 e_22 => ?_)
              have h_23 : JL C μ_21 := by rw [e_22]; exact JL.up h_19 (by decide) (fun _ => show 0 ≤ ((μ_17 1 3) + (1 : Int32)).toInt ∧ ((μ_17 1 3) + (1 : Int32)).toInt ≤ 1500 from by have q_25 : ((μ_17 1 3) + (1 : Int32)).toInt = ((μ_17 1 3).toInt + (1 : Int)) := (iA (rfl : (μ_17 1 3).toInt = _) (iL (1) (1) rfl) (by omega) (by omega)); omega)
              have q_26 : (μ_21 1 3).toInt = ((μ_17 1 3).toInt + (1 : Int)) := by rw [e_22]; exact (show ((μ_17 1 3) + (1 : Int32)).toInt = _ from (iA (rfl : (μ_17 1 3).toInt = _) (iL (1) (1) rfl) (by omega) (by omega)))
              unfold fX7_advance_n175
              refine zH_eqc (rfl : (μ_21 1 5).toInt = _) (rfl : y1.toInt = _) (fun c_27e c_27 => ?_) (fun c_27e c_27 => ?_)
              · refine zH_eqc (rfl : (μ_21 1 4).toInt = _) (iL (3) (3) rfl) (fun c_28e c_28 => ?_) (fun c_28e c_28 => ?_)
                · exact zH_some h_23
                · refine zH_lt (fun μ_29 e_30 => ?_)
                  have h_31 : JL C μ_29 := by rw [e_30]; exact JL.up h_23 (by decide) (fun e => absurd e (by decide))
                  have q_32 : (μ_29 1 3).toInt = (μ_21 1 3).toInt := by rw [e_30]; first | done | rfl
                  exact zH_some h_31
              · exact zH_some h_23
            · unfold fX7_advance_n162
              refine zH_lt (fun μ_33 e_34 => ?_)
              have h_35 : JL C μ_33 := by rw [e_34]; exact JL.up h_7 (by decide) (fun e => absurd e (by decide))
              have q_36 : (μ_33 1 3).toInt = (μ_5 1 3).toInt := by rw [e_34]; first | done | rfl
              have f_40 : 0 ≤ (μ_33 1 3).toInt ∧ (μ_33 1 3).toInt ≤ 1500 := h_35.2.2
              refine zH_lt (fun μ_37 e_38 => ?_)
              have h_39 : JL C μ_37 := by rw [e_38]; exact JL.up h_35 (by decide) (fun _ => show 0 ≤ ((μ_33 1 3) + (1 : Int32)).toInt ∧ ((μ_33 1 3) + (1 : Int32)).toInt ≤ 1500 from by have q_41 : ((μ_33 1 3) + (1 : Int32)).toInt = ((μ_33 1 3).toInt + (1 : Int)) := (iA (rfl : (μ_33 1 3).toInt = _) (iL (1) (1) rfl) (by omega) (by omega)); omega)
              have q_42 : (μ_37 1 3).toInt = ((μ_33 1 3).toInt + (1 : Int)) := by rw [e_38]; exact (show ((μ_33 1 3) + (1 : Int32)).toInt = _ from (iA (rfl : (μ_33 1 3).toInt = _) (iL (1) (1) rfl) (by omega) (by omega)))
              unfold fX7_advance_n175
              refine zH_eqc (rfl : (μ_37 1 5).toInt = _) (rfl : y1.toInt = _) (fun c_43e c_43 => ?_) (fun c_43e c_43 => ?_)
              · refine zH_eqc (rfl : (μ_37 1 4).toInt = _) (iL (3) (3) rfl) (fun c_44e c_44 => ?_) (fun c_44e c_44 => ?_)
                · exact zH_some h_39
                · refine zH_lt (fun μ_45 e_46 => ?_)
                  have h_47 : JL C μ_45 := by rw [e_46]; exact JL.up h_39 (by decide) (fun e => absurd e (by decide))
                  have q_48 : (μ_45 1 3).toInt = (μ_37 1 3).toInt := by rw [e_46]; first | done | rfl
                  exact zH_some h_47
              · exact zH_some h_39
          · refine zH_ltc (iL (57) (57) rfl) (rfl : x_12.toInt = _) (fun c_49 => ?_) (fun c_49 => ?_)
            · unfold fX7_advance_n150
              refine zH_eqc (rfl : x_12.toInt = _) (iL (59) (59) rfl) (fun c_50e c_50 => ?_) (fun c_50e c_50 => ?_)
              · unfold fX7_advance_n162
                refine zH_lt (fun μ_51 e_52 => ?_)
                have h_53 : JL C μ_51 := by rw [e_52]; exact JL.up h_7 (by decide) (fun e => absurd e (by decide))
                have q_54 : (μ_51 1 3).toInt = (μ_5 1 3).toInt := by rw [e_52]; first | done | rfl
                have f_58 : 0 ≤ (μ_51 1 3).toInt ∧ (μ_51 1 3).toInt ≤ 1500 := h_53.2.2
                refine zH_lt (fun μ_55 e_56 => ?_)
                have h_57 : JL C μ_55 := by rw [e_56]; exact JL.up h_53 (by decide) (fun _ => show 0 ≤ ((μ_51 1 3) + (1 : Int32)).toInt ∧ ((μ_51 1 3) + (1 : Int32)).toInt ≤ 1500 from by have q_59 : ((μ_51 1 3) + (1 : Int32)).toInt = ((μ_51 1 3).toInt + (1 : Int)) := (iA (rfl : (μ_51 1 3).toInt = _) (iL (1) (1) rfl) (by omega) (by omega)); omega)
                have q_60 : (μ_55 1 3).toInt = ((μ_51 1 3).toInt + (1 : Int)) := by rw [e_56]; exact (show ((μ_51 1 3) + (1 : Int32)).toInt = _ from (iA (rfl : (μ_51 1 3).toInt = _) (iL (1) (1) rfl) (by omega) (by omega)))
                unfold fX7_advance_n175
                refine zH_eqc (rfl : (μ_55 1 5).toInt = _) (rfl : y1.toInt = _) (fun c_61e c_61 => ?_) (fun c_61e c_61 => ?_)
                · refine zH_eqc (rfl : (μ_55 1 4).toInt = _) (iL (3) (3) rfl) (fun c_62e c_62 => ?_) (fun c_62e c_62 => ?_)
                  · exact zH_some h_57
                  · refine zH_lt (fun μ_63 e_64 => ?_)
                    have h_65 : JL C μ_63 := by rw [e_64]; exact JL.up h_57 (by decide) (fun e => absurd e (by decide))
                    have q_66 : (μ_63 1 3).toInt = (μ_55 1 3).toInt := by rw [e_64]; first | done | rfl
                    exact zH_some h_65
                · exact zH_some h_57
              · unfold fX7_advance_n162
                refine zH_lt (fun μ_67 e_68 => ?_)
                have h_69 : JL C μ_67 := by rw [e_68]; exact JL.up h_7 (by decide) (fun e => absurd e (by decide))
                have q_70 : (μ_67 1 3).toInt = (μ_5 1 3).toInt := by rw [e_68]; first | done | rfl
                have f_74 : 0 ≤ (μ_67 1 3).toInt ∧ (μ_67 1 3).toInt ≤ 1500 := h_69.2.2
                refine zH_lt (fun μ_71 e_72 => ?_)
                have h_73 : JL C μ_71 := by rw [e_72]; exact JL.up h_69 (by decide) (fun _ => show 0 ≤ ((μ_67 1 3) + (1 : Int32)).toInt ∧ ((μ_67 1 3) + (1 : Int32)).toInt ≤ 1500 from by have q_75 : ((μ_67 1 3) + (1 : Int32)).toInt = ((μ_67 1 3).toInt + (1 : Int)) := (iA (rfl : (μ_67 1 3).toInt = _) (iL (1) (1) rfl) (by omega) (by omega)); omega)
                have q_76 : (μ_71 1 3).toInt = ((μ_67 1 3).toInt + (1 : Int)) := by rw [e_72]; exact (show ((μ_67 1 3) + (1 : Int32)).toInt = _ from (iA (rfl : (μ_67 1 3).toInt = _) (iL (1) (1) rfl) (by omega) (by omega)))
                unfold fX7_advance_n175
                refine zH_eqc (rfl : (μ_71 1 5).toInt = _) (rfl : y1.toInt = _) (fun c_77e c_77 => ?_) (fun c_77e c_77 => ?_)
                · refine zH_eqc (rfl : (μ_71 1 4).toInt = _) (iL (3) (3) rfl) (fun c_78e c_78 => ?_) (fun c_78e c_78 => ?_)
                  · exact zH_some h_73
                  · refine zH_lt (fun μ_79 e_80 => ?_)
                    have h_81 : JL C μ_79 := by rw [e_80]; exact JL.up h_73 (by decide) (fun e => absurd e (by decide))
                    have q_82 : (μ_79 1 3).toInt = (μ_71 1 3).toInt := by rw [e_80]; first | done | rfl
                    exact zH_some h_81
                · exact zH_some h_73
            · refine zH_bd (tX7_readNumber hC h_7) (fun μ_83 p_84 => ?_)
              have h_85 : JL C μ_83 := p_84
              unfold fX7_advance_n175
              refine zH_eqc (rfl : (μ_83 1 5).toInt = _) (rfl : y1.toInt = _) (fun c_86e c_86 => ?_) (fun c_86e c_86 => ?_)
              · refine zH_eqc (rfl : (μ_83 1 4).toInt = _) (iL (3) (3) rfl) (fun c_87e c_87 => ?_) (fun c_87e c_87 => ?_)
                · exact zH_some h_85
                · refine zH_lt (fun μ_88 e_89 => ?_)
                  have h_90 : JL C μ_88 := by rw [e_89]; exact JL.up h_85 (by decide) (fun e => absurd e (by decide))
                  have q_91 : (μ_88 1 3).toInt = (μ_83 1 3).toInt := by rw [e_89]; first | done | rfl
                  exact zH_some h_90
              · exact zH_some h_85
        · refine zH_ltc (iL (122) (122) rfl) (rfl : x_12.toInt = _) (fun c_92 => ?_) (fun c_92 => ?_)
          · unfold fX7_advance_n131
            refine zH_ltc (rfl : x_12.toInt = _) (iL (48) (48) rfl) (fun c_93 => ?_) (fun c_93 => ?_)
            · unfold fX7_advance_n150
              refine zH_eqc (rfl : x_12.toInt = _) (iL (59) (59) rfl) (fun c_94e c_94 => ?_) (fun c_94e c_94 => ?_)
              · unfold fX7_advance_n162
                refine zH_lt (fun μ_95 e_96 => ?_)
                have h_97 : JL C μ_95 := by rw [e_96]; exact JL.up h_7 (by decide) (fun e => absurd e (by decide))
                have q_98 : (μ_95 1 3).toInt = (μ_5 1 3).toInt := by rw [e_96]; first | done | rfl
                have f_102 : 0 ≤ (μ_95 1 3).toInt ∧ (μ_95 1 3).toInt ≤ 1500 := h_97.2.2
                refine zH_lt (fun μ_99 e_100 => ?_)
                have h_101 : JL C μ_99 := by rw [e_100]; exact JL.up h_97 (by decide) (fun _ => show 0 ≤ ((μ_95 1 3) + (1 : Int32)).toInt ∧ ((μ_95 1 3) + (1 : Int32)).toInt ≤ 1500 from by have q_103 : ((μ_95 1 3) + (1 : Int32)).toInt = ((μ_95 1 3).toInt + (1 : Int)) := (iA (rfl : (μ_95 1 3).toInt = _) (iL (1) (1) rfl) (by omega) (by omega)); omega)
                have q_104 : (μ_99 1 3).toInt = ((μ_95 1 3).toInt + (1 : Int)) := by rw [e_100]; exact (show ((μ_95 1 3) + (1 : Int32)).toInt = _ from (iA (rfl : (μ_95 1 3).toInt = _) (iL (1) (1) rfl) (by omega) (by omega)))
                unfold fX7_advance_n175
                refine zH_eqc (rfl : (μ_99 1 5).toInt = _) (rfl : y1.toInt = _) (fun c_105e c_105 => ?_) (fun c_105e c_105 => ?_)
                · refine zH_eqc (rfl : (μ_99 1 4).toInt = _) (iL (3) (3) rfl) (fun c_106e c_106 => ?_) (fun c_106e c_106 => ?_)
                  · exact zH_some h_101
                  · refine zH_lt (fun μ_107 e_108 => ?_)
                    have h_109 : JL C μ_107 := by rw [e_108]; exact JL.up h_101 (by decide) (fun e => absurd e (by decide))
                    have q_110 : (μ_107 1 3).toInt = (μ_99 1 3).toInt := by rw [e_108]; first | done | rfl
                    exact zH_some h_109
                · exact zH_some h_101
              · unfold fX7_advance_n162
                refine zH_lt (fun μ_111 e_112 => ?_)
                have h_113 : JL C μ_111 := by rw [e_112]; exact JL.up h_7 (by decide) (fun e => absurd e (by decide))
                have q_114 : (μ_111 1 3).toInt = (μ_5 1 3).toInt := by rw [e_112]; first | done | rfl
                have f_118 : 0 ≤ (μ_111 1 3).toInt ∧ (μ_111 1 3).toInt ≤ 1500 := h_113.2.2
                refine zH_lt (fun μ_115 e_116 => ?_)
                have h_117 : JL C μ_115 := by rw [e_116]; exact JL.up h_113 (by decide) (fun _ => show 0 ≤ ((μ_111 1 3) + (1 : Int32)).toInt ∧ ((μ_111 1 3) + (1 : Int32)).toInt ≤ 1500 from by have q_119 : ((μ_111 1 3) + (1 : Int32)).toInt = ((μ_111 1 3).toInt + (1 : Int)) := (iA (rfl : (μ_111 1 3).toInt = _) (iL (1) (1) rfl) (by omega) (by omega)); omega)
                have q_120 : (μ_115 1 3).toInt = ((μ_111 1 3).toInt + (1 : Int)) := by rw [e_116]; exact (show ((μ_111 1 3) + (1 : Int32)).toInt = _ from (iA (rfl : (μ_111 1 3).toInt = _) (iL (1) (1) rfl) (by omega) (by omega)))
                unfold fX7_advance_n175
                refine zH_eqc (rfl : (μ_115 1 5).toInt = _) (rfl : y1.toInt = _) (fun c_121e c_121 => ?_) (fun c_121e c_121 => ?_)
                · refine zH_eqc (rfl : (μ_115 1 4).toInt = _) (iL (3) (3) rfl) (fun c_122e c_122 => ?_) (fun c_122e c_122 => ?_)
                  · exact zH_some h_117
                  · refine zH_lt (fun μ_123 e_124 => ?_)
                    have h_125 : JL C μ_123 := by rw [e_124]; exact JL.up h_117 (by decide) (fun e => absurd e (by decide))
                    have q_126 : (μ_123 1 3).toInt = (μ_115 1 3).toInt := by rw [e_124]; first | done | rfl
                    exact zH_some h_125
                · exact zH_some h_117
            · refine zH_ltc (iL (57) (57) rfl) (rfl : x_12.toInt = _) (fun c_127 => ?_) (fun c_127 => ?_)
              · unfold fX7_advance_n150
                refine zH_eqc (rfl : x_12.toInt = _) (iL (59) (59) rfl) (fun c_128e c_128 => ?_) (fun c_128e c_128 => ?_)
                · unfold fX7_advance_n162
                  refine zH_lt (fun μ_129 e_130 => ?_)
                  have h_131 : JL C μ_129 := by rw [e_130]; exact JL.up h_7 (by decide) (fun e => absurd e (by decide))
                  have q_132 : (μ_129 1 3).toInt = (μ_5 1 3).toInt := by rw [e_130]; first | done | rfl
                  have f_136 : 0 ≤ (μ_129 1 3).toInt ∧ (μ_129 1 3).toInt ≤ 1500 := h_131.2.2
                  refine zH_lt (fun μ_133 e_134 => ?_)
                  have h_135 : JL C μ_133 := by rw [e_134]; exact JL.up h_131 (by decide) (fun _ => show 0 ≤ ((μ_129 1 3) + (1 : Int32)).toInt ∧ ((μ_129 1 3) + (1 : Int32)).toInt ≤ 1500 from by have q_137 : ((μ_129 1 3) + (1 : Int32)).toInt = ((μ_129 1 3).toInt + (1 : Int)) := (iA (rfl : (μ_129 1 3).toInt = _) (iL (1) (1) rfl) (by omega) (by omega)); omega)
                  have q_138 : (μ_133 1 3).toInt = ((μ_129 1 3).toInt + (1 : Int)) := by rw [e_134]; exact (show ((μ_129 1 3) + (1 : Int32)).toInt = _ from (iA (rfl : (μ_129 1 3).toInt = _) (iL (1) (1) rfl) (by omega) (by omega)))
                  unfold fX7_advance_n175
                  refine zH_eqc (rfl : (μ_133 1 5).toInt = _) (rfl : y1.toInt = _) (fun c_139e c_139 => ?_) (fun c_139e c_139 => ?_)
                  · refine zH_eqc (rfl : (μ_133 1 4).toInt = _) (iL (3) (3) rfl) (fun c_140e c_140 => ?_) (fun c_140e c_140 => ?_)
                    · exact zH_some h_135
                    · refine zH_lt (fun μ_141 e_142 => ?_)
                      have h_143 : JL C μ_141 := by rw [e_142]; exact JL.up h_135 (by decide) (fun e => absurd e (by decide))
                      have q_144 : (μ_141 1 3).toInt = (μ_133 1 3).toInt := by rw [e_142]; first | done | rfl
                      exact zH_some h_143
                  · exact zH_some h_135
                · unfold fX7_advance_n162
                  refine zH_lt (fun μ_145 e_146 => ?_)
                  have h_147 : JL C μ_145 := by rw [e_146]; exact JL.up h_7 (by decide) (fun e => absurd e (by decide))
                  have q_148 : (μ_145 1 3).toInt = (μ_5 1 3).toInt := by rw [e_146]; first | done | rfl
                  have f_152 : 0 ≤ (μ_145 1 3).toInt ∧ (μ_145 1 3).toInt ≤ 1500 := h_147.2.2
                  refine zH_lt (fun μ_149 e_150 => ?_)
                  have h_151 : JL C μ_149 := by rw [e_150]; exact JL.up h_147 (by decide) (fun _ => show 0 ≤ ((μ_145 1 3) + (1 : Int32)).toInt ∧ ((μ_145 1 3) + (1 : Int32)).toInt ≤ 1500 from by have q_153 : ((μ_145 1 3) + (1 : Int32)).toInt = ((μ_145 1 3).toInt + (1 : Int)) := (iA (rfl : (μ_145 1 3).toInt = _) (iL (1) (1) rfl) (by omega) (by omega)); omega)
                  have q_154 : (μ_149 1 3).toInt = ((μ_145 1 3).toInt + (1 : Int)) := by rw [e_150]; exact (show ((μ_145 1 3) + (1 : Int32)).toInt = _ from (iA (rfl : (μ_145 1 3).toInt = _) (iL (1) (1) rfl) (by omega) (by omega)))
                  unfold fX7_advance_n175
                  refine zH_eqc (rfl : (μ_149 1 5).toInt = _) (rfl : y1.toInt = _) (fun c_155e c_155 => ?_) (fun c_155e c_155 => ?_)
                  · refine zH_eqc (rfl : (μ_149 1 4).toInt = _) (iL (3) (3) rfl) (fun c_156e c_156 => ?_) (fun c_156e c_156 => ?_)
                    · exact zH_some h_151
                    · refine zH_lt (fun μ_157 e_158 => ?_)
                      have h_159 : JL C μ_157 := by rw [e_158]; exact JL.up h_151 (by decide) (fun e => absurd e (by decide))
                      have q_160 : (μ_157 1 3).toInt = (μ_149 1 3).toInt := by rw [e_158]; first | done | rfl
                      exact zH_some h_159
                  · exact zH_some h_151
              · refine zH_bd (tX7_readNumber hC h_7) (fun μ_161 p_162 => ?_)
                have h_163 : JL C μ_161 := p_162
                unfold fX7_advance_n175
                refine zH_eqc (rfl : (μ_161 1 5).toInt = _) (rfl : y1.toInt = _) (fun c_164e c_164 => ?_) (fun c_164e c_164 => ?_)
                · refine zH_eqc (rfl : (μ_161 1 4).toInt = _) (iL (3) (3) rfl) (fun c_165e c_165 => ?_) (fun c_165e c_165 => ?_)
                  · exact zH_some h_163
                  · refine zH_lt (fun μ_166 e_167 => ?_)
                    have h_168 : JL C μ_166 := by rw [e_167]; exact JL.up h_163 (by decide) (fun e => absurd e (by decide))
                    have q_169 : (μ_166 1 3).toInt = (μ_161 1 3).toInt := by rw [e_167]; first | done | rfl
                    exact zH_some h_168
                · exact zH_some h_163
          · refine zH_bd (tX7_readWord hC h_7) (fun μ_170 p_171 => ?_)
            have h_172 : JL C μ_170 := p_171
            unfold fX7_advance_n175
            refine zH_eqc (rfl : (μ_170 1 5).toInt = _) (rfl : y1.toInt = _) (fun c_173e c_173 => ?_) (fun c_173e c_173 => ?_)
            · refine zH_eqc (rfl : (μ_170 1 4).toInt = _) (iL (3) (3) rfl) (fun c_174e c_174 => ?_) (fun c_174e c_174 => ?_)
              · exact zH_some h_172
              · refine zH_lt (fun μ_175 e_176 => ?_)
                have h_177 : JL C μ_175 := by rw [e_176]; exact JL.up h_172 (by decide) (fun e => absurd e (by decide))
                have q_178 : (μ_175 1 3).toInt = (μ_170 1 3).toInt := by rw [e_176]; first | done | rfl
                exact zH_some h_177
            · exact zH_some h_172
      · refine zH_lt (fun μ_179 e_180 => ?_)
        have h_181 : JL C μ_179 := by rw [e_180]; exact JL.up h_7 (by decide) (fun e => absurd e (by decide))
        have q_182 : (μ_179 1 3).toInt = (μ_5 1 3).toInt := by rw [e_180]; first | done | rfl
        exact zH_some h_181
    · refine zH_ck (zIn (rfl : (μ 1 3).toInt = _) (by omega) (by omega)) ?_
      refine zH_eqc (rfl : (μ 2 ((μ 1 3)).toNatClampNeg).toInt = _) (iL (10) (10) rfl) (fun c_183e c_183 => ?_) (fun c_183e c_183 => ?_)
      · unfold fX7_advance_n64
        refine zH_lt (fun μ_184 e_185 => ?_)
        have h_186 : JL C μ_184 := by rw [e_185]; exact JL.up h (by decide) (fun _ => show 0 ≤ ((μ 1 3) + (1 : Int32)).toInt ∧ ((μ 1 3) + (1 : Int32)).toInt ≤ 1500 from by have q_187 : ((μ 1 3) + (1 : Int32)).toInt = ((μ 1 3).toInt + (1 : Int)) := (iA (rfl : (μ 1 3).toInt = _) (iL (1) (1) rfl) (by omega) (by omega)); omega)
        have q_188 : (μ_184 1 3).toInt = ((μ 1 3).toInt + (1 : Int)) := by rw [e_185]; exact (show ((μ 1 3) + (1 : Int32)).toInt = _ from (iA (rfl : (μ 1 3).toInt = _) (iL (1) (1) rfl) (by omega) (by omega)))
        exact ih y1 μ_184 h_186 (by omega)
      · refine zH_ck (zIn (rfl : (μ 1 3).toInt = _) (by omega) (by omega)) ?_
        refine zH_eqc (rfl : (μ 2 ((μ 1 3)).toNatClampNeg).toInt = _) (iL (32) (32) rfl) (fun c_189e c_189 => ?_) (fun c_189e c_189 => ?_)
        · unfold fX7_advance_n64
          refine zH_lt (fun μ_190 e_191 => ?_)
          have h_192 : JL C μ_190 := by rw [e_191]; exact JL.up h (by decide) (fun _ => show 0 ≤ ((μ 1 3) + (1 : Int32)).toInt ∧ ((μ 1 3) + (1 : Int32)).toInt ≤ 1500 from by have q_193 : ((μ 1 3) + (1 : Int32)).toInt = ((μ 1 3).toInt + (1 : Int)) := (iA (rfl : (μ 1 3).toInt = _) (iL (1) (1) rfl) (by omega) (by omega)); omega)
          have q_194 : (μ_190 1 3).toInt = ((μ 1 3).toInt + (1 : Int)) := by rw [e_191]; exact (show ((μ 1 3) + (1 : Int32)).toInt = _ from (iA (rfl : (μ 1 3).toInt = _) (iL (1) (1) rfl) (by omega) (by omega)))
          exact ih y1 μ_190 h_192 (by omega)
        · unfold fX7_advance_n77
          refine zH_lt (fun μ_195 e_196 => ?_)
          have h_197 : JL C μ_195 := by rw [e_196]; exact JL.up h (by decide) (fun e => absurd e (by decide))
          have q_198 : (μ_195 1 3).toInt = (μ 1 3).toInt := by rw [e_196]; first | done | rfl
          have f_200 : 0 ≤ (μ_195 1 3).toInt ∧ (μ_195 1 3).toInt ≤ 1500 := h_197.2.2
          have f_201 : 0 ≤ (μ_195 1 2).toInt ∧ (μ_195 1 2).toInt ≤ 1500 := h_197.lenI hC
          refine zH_ltc (rfl : (μ_195 1 3).toInt = _) (rfl : (μ_195 1 2).toInt = _) (fun c_199 => ?_) (fun c_199 => ?_)
          · refine zH_ck (zIn (rfl : (μ_195 1 3).toInt = _) (by omega) (by omega)) ?_
            refine zH_lt (fun x_202 e_203 => ?_)
            refine zH_ltc (rfl : x_202.toInt = _) (iL (97) (97) rfl) (fun c_204 => ?_) (fun c_204 => ?_)
            · unfold fX7_advance_n131
              refine zH_ltc (rfl : x_202.toInt = _) (iL (48) (48) rfl) (fun c_205 => ?_) (fun c_205 => ?_)
              · unfold fX7_advance_n150
                refine zH_eqc (rfl : x_202.toInt = _) (iL (59) (59) rfl) (fun c_206e c_206 => ?_) (fun c_206e c_206 => ?_)
                · unfold fX7_advance_n162
                  refine zH_lt (fun μ_207 e_208 => ?_)
                  have h_209 : JL C μ_207 := by rw [e_208]; exact JL.up h_197 (by decide) (fun e => absurd e (by decide))
                  have q_210 : (μ_207 1 3).toInt = (μ_195 1 3).toInt := by rw [e_208]; first | done | rfl
                  have f_214 : 0 ≤ (μ_207 1 3).toInt ∧ (μ_207 1 3).toInt ≤ 1500 := h_209.2.2
                  refine zH_lt (fun μ_211 e_212 => ?_)
                  have h_213 : JL C μ_211 := by rw [e_212]; exact JL.up h_209 (by decide) (fun _ => show 0 ≤ ((μ_207 1 3) + (1 : Int32)).toInt ∧ ((μ_207 1 3) + (1 : Int32)).toInt ≤ 1500 from by have q_215 : ((μ_207 1 3) + (1 : Int32)).toInt = ((μ_207 1 3).toInt + (1 : Int)) := (iA (rfl : (μ_207 1 3).toInt = _) (iL (1) (1) rfl) (by omega) (by omega)); omega)
                  have q_216 : (μ_211 1 3).toInt = ((μ_207 1 3).toInt + (1 : Int)) := by rw [e_212]; exact (show ((μ_207 1 3) + (1 : Int32)).toInt = _ from (iA (rfl : (μ_207 1 3).toInt = _) (iL (1) (1) rfl) (by omega) (by omega)))
                  unfold fX7_advance_n175
                  refine zH_eqc (rfl : (μ_211 1 5).toInt = _) (rfl : y1.toInt = _) (fun c_217e c_217 => ?_) (fun c_217e c_217 => ?_)
                  · refine zH_eqc (rfl : (μ_211 1 4).toInt = _) (iL (3) (3) rfl) (fun c_218e c_218 => ?_) (fun c_218e c_218 => ?_)
                    · exact zH_some h_213
                    · refine zH_lt (fun μ_219 e_220 => ?_)
                      have h_221 : JL C μ_219 := by rw [e_220]; exact JL.up h_213 (by decide) (fun e => absurd e (by decide))
                      have q_222 : (μ_219 1 3).toInt = (μ_211 1 3).toInt := by rw [e_220]; first | done | rfl
                      exact zH_some h_221
                  · exact zH_some h_213
                · unfold fX7_advance_n162
                  refine zH_lt (fun μ_223 e_224 => ?_)
                  have h_225 : JL C μ_223 := by rw [e_224]; exact JL.up h_197 (by decide) (fun e => absurd e (by decide))
                  have q_226 : (μ_223 1 3).toInt = (μ_195 1 3).toInt := by rw [e_224]; first | done | rfl
                  have f_230 : 0 ≤ (μ_223 1 3).toInt ∧ (μ_223 1 3).toInt ≤ 1500 := h_225.2.2
                  refine zH_lt (fun μ_227 e_228 => ?_)
                  have h_229 : JL C μ_227 := by rw [e_228]; exact JL.up h_225 (by decide) (fun _ => show 0 ≤ ((μ_223 1 3) + (1 : Int32)).toInt ∧ ((μ_223 1 3) + (1 : Int32)).toInt ≤ 1500 from by have q_231 : ((μ_223 1 3) + (1 : Int32)).toInt = ((μ_223 1 3).toInt + (1 : Int)) := (iA (rfl : (μ_223 1 3).toInt = _) (iL (1) (1) rfl) (by omega) (by omega)); omega)
                  have q_232 : (μ_227 1 3).toInt = ((μ_223 1 3).toInt + (1 : Int)) := by rw [e_228]; exact (show ((μ_223 1 3) + (1 : Int32)).toInt = _ from (iA (rfl : (μ_223 1 3).toInt = _) (iL (1) (1) rfl) (by omega) (by omega)))
                  unfold fX7_advance_n175
                  refine zH_eqc (rfl : (μ_227 1 5).toInt = _) (rfl : y1.toInt = _) (fun c_233e c_233 => ?_) (fun c_233e c_233 => ?_)
                  · refine zH_eqc (rfl : (μ_227 1 4).toInt = _) (iL (3) (3) rfl) (fun c_234e c_234 => ?_) (fun c_234e c_234 => ?_)
                    · exact zH_some h_229
                    · refine zH_lt (fun μ_235 e_236 => ?_)
                      have h_237 : JL C μ_235 := by rw [e_236]; exact JL.up h_229 (by decide) (fun e => absurd e (by decide))
                      have q_238 : (μ_235 1 3).toInt = (μ_227 1 3).toInt := by rw [e_236]; first | done | rfl
                      exact zH_some h_237
                  · exact zH_some h_229
              · refine zH_ltc (iL (57) (57) rfl) (rfl : x_202.toInt = _) (fun c_239 => ?_) (fun c_239 => ?_)
                · unfold fX7_advance_n150
                  refine zH_eqc (rfl : x_202.toInt = _) (iL (59) (59) rfl) (fun c_240e c_240 => ?_) (fun c_240e c_240 => ?_)
                  · unfold fX7_advance_n162
                    refine zH_lt (fun μ_241 e_242 => ?_)
                    have h_243 : JL C μ_241 := by rw [e_242]; exact JL.up h_197 (by decide) (fun e => absurd e (by decide))
                    have q_244 : (μ_241 1 3).toInt = (μ_195 1 3).toInt := by rw [e_242]; first | done | rfl
                    have f_248 : 0 ≤ (μ_241 1 3).toInt ∧ (μ_241 1 3).toInt ≤ 1500 := h_243.2.2
                    refine zH_lt (fun μ_245 e_246 => ?_)
                    have h_247 : JL C μ_245 := by rw [e_246]; exact JL.up h_243 (by decide) (fun _ => show 0 ≤ ((μ_241 1 3) + (1 : Int32)).toInt ∧ ((μ_241 1 3) + (1 : Int32)).toInt ≤ 1500 from by have q_249 : ((μ_241 1 3) + (1 : Int32)).toInt = ((μ_241 1 3).toInt + (1 : Int)) := (iA (rfl : (μ_241 1 3).toInt = _) (iL (1) (1) rfl) (by omega) (by omega)); omega)
                    have q_250 : (μ_245 1 3).toInt = ((μ_241 1 3).toInt + (1 : Int)) := by rw [e_246]; exact (show ((μ_241 1 3) + (1 : Int32)).toInt = _ from (iA (rfl : (μ_241 1 3).toInt = _) (iL (1) (1) rfl) (by omega) (by omega)))
                    unfold fX7_advance_n175
                    refine zH_eqc (rfl : (μ_245 1 5).toInt = _) (rfl : y1.toInt = _) (fun c_251e c_251 => ?_) (fun c_251e c_251 => ?_)
                    · refine zH_eqc (rfl : (μ_245 1 4).toInt = _) (iL (3) (3) rfl) (fun c_252e c_252 => ?_) (fun c_252e c_252 => ?_)
                      · exact zH_some h_247
                      · refine zH_lt (fun μ_253 e_254 => ?_)
                        have h_255 : JL C μ_253 := by rw [e_254]; exact JL.up h_247 (by decide) (fun e => absurd e (by decide))
                        have q_256 : (μ_253 1 3).toInt = (μ_245 1 3).toInt := by rw [e_254]; first | done | rfl
                        exact zH_some h_255
                    · exact zH_some h_247
                  · unfold fX7_advance_n162
                    refine zH_lt (fun μ_257 e_258 => ?_)
                    have h_259 : JL C μ_257 := by rw [e_258]; exact JL.up h_197 (by decide) (fun e => absurd e (by decide))
                    have q_260 : (μ_257 1 3).toInt = (μ_195 1 3).toInt := by rw [e_258]; first | done | rfl
                    have f_264 : 0 ≤ (μ_257 1 3).toInt ∧ (μ_257 1 3).toInt ≤ 1500 := h_259.2.2
                    refine zH_lt (fun μ_261 e_262 => ?_)
                    have h_263 : JL C μ_261 := by rw [e_262]; exact JL.up h_259 (by decide) (fun _ => show 0 ≤ ((μ_257 1 3) + (1 : Int32)).toInt ∧ ((μ_257 1 3) + (1 : Int32)).toInt ≤ 1500 from by have q_265 : ((μ_257 1 3) + (1 : Int32)).toInt = ((μ_257 1 3).toInt + (1 : Int)) := (iA (rfl : (μ_257 1 3).toInt = _) (iL (1) (1) rfl) (by omega) (by omega)); omega)
                    have q_266 : (μ_261 1 3).toInt = ((μ_257 1 3).toInt + (1 : Int)) := by rw [e_262]; exact (show ((μ_257 1 3) + (1 : Int32)).toInt = _ from (iA (rfl : (μ_257 1 3).toInt = _) (iL (1) (1) rfl) (by omega) (by omega)))
                    unfold fX7_advance_n175
                    refine zH_eqc (rfl : (μ_261 1 5).toInt = _) (rfl : y1.toInt = _) (fun c_267e c_267 => ?_) (fun c_267e c_267 => ?_)
                    · refine zH_eqc (rfl : (μ_261 1 4).toInt = _) (iL (3) (3) rfl) (fun c_268e c_268 => ?_) (fun c_268e c_268 => ?_)
                      · exact zH_some h_263
                      · refine zH_lt (fun μ_269 e_270 => ?_)
                        have h_271 : JL C μ_269 := by rw [e_270]; exact JL.up h_263 (by decide) (fun e => absurd e (by decide))
                        have q_272 : (μ_269 1 3).toInt = (μ_261 1 3).toInt := by rw [e_270]; first | done | rfl
                        exact zH_some h_271
                    · exact zH_some h_263
                · refine zH_bd (tX7_readNumber hC h_197) (fun μ_273 p_274 => ?_)
                  have h_275 : JL C μ_273 := p_274
                  unfold fX7_advance_n175
                  refine zH_eqc (rfl : (μ_273 1 5).toInt = _) (rfl : y1.toInt = _) (fun c_276e c_276 => ?_) (fun c_276e c_276 => ?_)
                  · refine zH_eqc (rfl : (μ_273 1 4).toInt = _) (iL (3) (3) rfl) (fun c_277e c_277 => ?_) (fun c_277e c_277 => ?_)
                    · exact zH_some h_275
                    · refine zH_lt (fun μ_278 e_279 => ?_)
                      have h_280 : JL C μ_278 := by rw [e_279]; exact JL.up h_275 (by decide) (fun e => absurd e (by decide))
                      have q_281 : (μ_278 1 3).toInt = (μ_273 1 3).toInt := by rw [e_279]; first | done | rfl
                      exact zH_some h_280
                  · exact zH_some h_275
            · refine zH_ltc (iL (122) (122) rfl) (rfl : x_202.toInt = _) (fun c_282 => ?_) (fun c_282 => ?_)
              · unfold fX7_advance_n131
                refine zH_ltc (rfl : x_202.toInt = _) (iL (48) (48) rfl) (fun c_283 => ?_) (fun c_283 => ?_)
                · unfold fX7_advance_n150
                  refine zH_eqc (rfl : x_202.toInt = _) (iL (59) (59) rfl) (fun c_284e c_284 => ?_) (fun c_284e c_284 => ?_)
                  · unfold fX7_advance_n162
                    refine zH_lt (fun μ_285 e_286 => ?_)
                    have h_287 : JL C μ_285 := by rw [e_286]; exact JL.up h_197 (by decide) (fun e => absurd e (by decide))
                    have q_288 : (μ_285 1 3).toInt = (μ_195 1 3).toInt := by rw [e_286]; first | done | rfl
                    have f_292 : 0 ≤ (μ_285 1 3).toInt ∧ (μ_285 1 3).toInt ≤ 1500 := h_287.2.2
                    refine zH_lt (fun μ_289 e_290 => ?_)
                    have h_291 : JL C μ_289 := by rw [e_290]; exact JL.up h_287 (by decide) (fun _ => show 0 ≤ ((μ_285 1 3) + (1 : Int32)).toInt ∧ ((μ_285 1 3) + (1 : Int32)).toInt ≤ 1500 from by have q_293 : ((μ_285 1 3) + (1 : Int32)).toInt = ((μ_285 1 3).toInt + (1 : Int)) := (iA (rfl : (μ_285 1 3).toInt = _) (iL (1) (1) rfl) (by omega) (by omega)); omega)
                    have q_294 : (μ_289 1 3).toInt = ((μ_285 1 3).toInt + (1 : Int)) := by rw [e_290]; exact (show ((μ_285 1 3) + (1 : Int32)).toInt = _ from (iA (rfl : (μ_285 1 3).toInt = _) (iL (1) (1) rfl) (by omega) (by omega)))
                    unfold fX7_advance_n175
                    refine zH_eqc (rfl : (μ_289 1 5).toInt = _) (rfl : y1.toInt = _) (fun c_295e c_295 => ?_) (fun c_295e c_295 => ?_)
                    · refine zH_eqc (rfl : (μ_289 1 4).toInt = _) (iL (3) (3) rfl) (fun c_296e c_296 => ?_) (fun c_296e c_296 => ?_)
                      · exact zH_some h_291
                      · refine zH_lt (fun μ_297 e_298 => ?_)
                        have h_299 : JL C μ_297 := by rw [e_298]; exact JL.up h_291 (by decide) (fun e => absurd e (by decide))
                        have q_300 : (μ_297 1 3).toInt = (μ_289 1 3).toInt := by rw [e_298]; first | done | rfl
                        exact zH_some h_299
                    · exact zH_some h_291
                  · unfold fX7_advance_n162
                    refine zH_lt (fun μ_301 e_302 => ?_)
                    have h_303 : JL C μ_301 := by rw [e_302]; exact JL.up h_197 (by decide) (fun e => absurd e (by decide))
                    have q_304 : (μ_301 1 3).toInt = (μ_195 1 3).toInt := by rw [e_302]; first | done | rfl
                    have f_308 : 0 ≤ (μ_301 1 3).toInt ∧ (μ_301 1 3).toInt ≤ 1500 := h_303.2.2
                    refine zH_lt (fun μ_305 e_306 => ?_)
                    have h_307 : JL C μ_305 := by rw [e_306]; exact JL.up h_303 (by decide) (fun _ => show 0 ≤ ((μ_301 1 3) + (1 : Int32)).toInt ∧ ((μ_301 1 3) + (1 : Int32)).toInt ≤ 1500 from by have q_309 : ((μ_301 1 3) + (1 : Int32)).toInt = ((μ_301 1 3).toInt + (1 : Int)) := (iA (rfl : (μ_301 1 3).toInt = _) (iL (1) (1) rfl) (by omega) (by omega)); omega)
                    have q_310 : (μ_305 1 3).toInt = ((μ_301 1 3).toInt + (1 : Int)) := by rw [e_306]; exact (show ((μ_301 1 3) + (1 : Int32)).toInt = _ from (iA (rfl : (μ_301 1 3).toInt = _) (iL (1) (1) rfl) (by omega) (by omega)))
                    unfold fX7_advance_n175
                    refine zH_eqc (rfl : (μ_305 1 5).toInt = _) (rfl : y1.toInt = _) (fun c_311e c_311 => ?_) (fun c_311e c_311 => ?_)
                    · refine zH_eqc (rfl : (μ_305 1 4).toInt = _) (iL (3) (3) rfl) (fun c_312e c_312 => ?_) (fun c_312e c_312 => ?_)
                      · exact zH_some h_307
                      · refine zH_lt (fun μ_313 e_314 => ?_)
                        have h_315 : JL C μ_313 := by rw [e_314]; exact JL.up h_307 (by decide) (fun e => absurd e (by decide))
                        have q_316 : (μ_313 1 3).toInt = (μ_305 1 3).toInt := by rw [e_314]; first | done | rfl
                        exact zH_some h_315
                    · exact zH_some h_307
                · refine zH_ltc (iL (57) (57) rfl) (rfl : x_202.toInt = _) (fun c_317 => ?_) (fun c_317 => ?_)
                  · unfold fX7_advance_n150
                    refine zH_eqc (rfl : x_202.toInt = _) (iL (59) (59) rfl) (fun c_318e c_318 => ?_) (fun c_318e c_318 => ?_)
                    · unfold fX7_advance_n162
                      refine zH_lt (fun μ_319 e_320 => ?_)
                      have h_321 : JL C μ_319 := by rw [e_320]; exact JL.up h_197 (by decide) (fun e => absurd e (by decide))
                      have q_322 : (μ_319 1 3).toInt = (μ_195 1 3).toInt := by rw [e_320]; first | done | rfl
                      have f_326 : 0 ≤ (μ_319 1 3).toInt ∧ (μ_319 1 3).toInt ≤ 1500 := h_321.2.2
                      refine zH_lt (fun μ_323 e_324 => ?_)
                      have h_325 : JL C μ_323 := by rw [e_324]; exact JL.up h_321 (by decide) (fun _ => show 0 ≤ ((μ_319 1 3) + (1 : Int32)).toInt ∧ ((μ_319 1 3) + (1 : Int32)).toInt ≤ 1500 from by have q_327 : ((μ_319 1 3) + (1 : Int32)).toInt = ((μ_319 1 3).toInt + (1 : Int)) := (iA (rfl : (μ_319 1 3).toInt = _) (iL (1) (1) rfl) (by omega) (by omega)); omega)
                      have q_328 : (μ_323 1 3).toInt = ((μ_319 1 3).toInt + (1 : Int)) := by rw [e_324]; exact (show ((μ_319 1 3) + (1 : Int32)).toInt = _ from (iA (rfl : (μ_319 1 3).toInt = _) (iL (1) (1) rfl) (by omega) (by omega)))
                      unfold fX7_advance_n175
                      refine zH_eqc (rfl : (μ_323 1 5).toInt = _) (rfl : y1.toInt = _) (fun c_329e c_329 => ?_) (fun c_329e c_329 => ?_)
                      · refine zH_eqc (rfl : (μ_323 1 4).toInt = _) (iL (3) (3) rfl) (fun c_330e c_330 => ?_) (fun c_330e c_330 => ?_)
                        · exact zH_some h_325
                        · refine zH_lt (fun μ_331 e_332 => ?_)
                          have h_333 : JL C μ_331 := by rw [e_332]; exact JL.up h_325 (by decide) (fun e => absurd e (by decide))
                          have q_334 : (μ_331 1 3).toInt = (μ_323 1 3).toInt := by rw [e_332]; first | done | rfl
                          exact zH_some h_333
                      · exact zH_some h_325
                    · unfold fX7_advance_n162
                      refine zH_lt (fun μ_335 e_336 => ?_)
                      have h_337 : JL C μ_335 := by rw [e_336]; exact JL.up h_197 (by decide) (fun e => absurd e (by decide))
                      have q_338 : (μ_335 1 3).toInt = (μ_195 1 3).toInt := by rw [e_336]; first | done | rfl
                      have f_342 : 0 ≤ (μ_335 1 3).toInt ∧ (μ_335 1 3).toInt ≤ 1500 := h_337.2.2
                      refine zH_lt (fun μ_339 e_340 => ?_)
                      have h_341 : JL C μ_339 := by rw [e_340]; exact JL.up h_337 (by decide) (fun _ => show 0 ≤ ((μ_335 1 3) + (1 : Int32)).toInt ∧ ((μ_335 1 3) + (1 : Int32)).toInt ≤ 1500 from by have q_343 : ((μ_335 1 3) + (1 : Int32)).toInt = ((μ_335 1 3).toInt + (1 : Int)) := (iA (rfl : (μ_335 1 3).toInt = _) (iL (1) (1) rfl) (by omega) (by omega)); omega)
                      have q_344 : (μ_339 1 3).toInt = ((μ_335 1 3).toInt + (1 : Int)) := by rw [e_340]; exact (show ((μ_335 1 3) + (1 : Int32)).toInt = _ from (iA (rfl : (μ_335 1 3).toInt = _) (iL (1) (1) rfl) (by omega) (by omega)))
                      unfold fX7_advance_n175
                      refine zH_eqc (rfl : (μ_339 1 5).toInt = _) (rfl : y1.toInt = _) (fun c_345e c_345 => ?_) (fun c_345e c_345 => ?_)
                      · refine zH_eqc (rfl : (μ_339 1 4).toInt = _) (iL (3) (3) rfl) (fun c_346e c_346 => ?_) (fun c_346e c_346 => ?_)
                        · exact zH_some h_341
                        · refine zH_lt (fun μ_347 e_348 => ?_)
                          have h_349 : JL C μ_347 := by rw [e_348]; exact JL.up h_341 (by decide) (fun e => absurd e (by decide))
                          have q_350 : (μ_347 1 3).toInt = (μ_339 1 3).toInt := by rw [e_348]; first | done | rfl
                          exact zH_some h_349
                      · exact zH_some h_341
                  · refine zH_bd (tX7_readNumber hC h_197) (fun μ_351 p_352 => ?_)
                    have h_353 : JL C μ_351 := p_352
                    unfold fX7_advance_n175
                    refine zH_eqc (rfl : (μ_351 1 5).toInt = _) (rfl : y1.toInt = _) (fun c_354e c_354 => ?_) (fun c_354e c_354 => ?_)
                    · refine zH_eqc (rfl : (μ_351 1 4).toInt = _) (iL (3) (3) rfl) (fun c_355e c_355 => ?_) (fun c_355e c_355 => ?_)
                      · exact zH_some h_353
                      · refine zH_lt (fun μ_356 e_357 => ?_)
                        have h_358 : JL C μ_356 := by rw [e_357]; exact JL.up h_353 (by decide) (fun e => absurd e (by decide))
                        have q_359 : (μ_356 1 3).toInt = (μ_351 1 3).toInt := by rw [e_357]; first | done | rfl
                        exact zH_some h_358
                    · exact zH_some h_353
              · refine zH_bd (tX7_readWord hC h_197) (fun μ_360 p_361 => ?_)
                have h_362 : JL C μ_360 := p_361
                unfold fX7_advance_n175
                refine zH_eqc (rfl : (μ_360 1 5).toInt = _) (rfl : y1.toInt = _) (fun c_363e c_363 => ?_) (fun c_363e c_363 => ?_)
                · refine zH_eqc (rfl : (μ_360 1 4).toInt = _) (iL (3) (3) rfl) (fun c_364e c_364 => ?_) (fun c_364e c_364 => ?_)
                  · exact zH_some h_362
                  · refine zH_lt (fun μ_365 e_366 => ?_)
                    have h_367 : JL C μ_365 := by rw [e_366]; exact JL.up h_362 (by decide) (fun e => absurd e (by decide))
                    have q_368 : (μ_365 1 3).toInt = (μ_360 1 3).toInt := by rw [e_366]; first | done | rfl
                    exact zH_some h_367
                · exact zH_some h_362
          · refine zH_lt (fun μ_369 e_370 => ?_)
            have h_371 : JL C μ_369 := by rw [e_370]; exact JL.up h_197 (by decide) (fun e => absurd e (by decide))
            have q_372 : (μ_369 1 3).toInt = (μ_195 1 3).toInt := by rw [e_370]; first | done | rfl
            exact zH_some h_371
theorem tX7_advance {C : gM} {μ : gM}  (hC : hL C) (h : JL C μ)  : zH (fX7_advance μ) (fun ν => JL C ν) := by
  unfold fX7_advance
  refine zH_eqc (rfl : (μ 1 4).toInt = _) (iL (1) (1) rfl) (fun c_1e c_1 => ?_) (fun c_1e c_1 => ?_)
  · have f_4 : 0 ≤ (μ 1 3).toInt ∧ (μ 1 3).toInt ≤ 1500 := h.2.2
    refine zH_lt (fun x_2 e_3 => ?_)
    have q_5 : x_2.toInt = (μ 1 3).toInt := (congrArg Int32.toInt e_3).trans (rfl : (μ 1 3).toInt = _)
    exact zH_mono (tX7_advance_l25 hC 100000 x_2 μ h (by omega)) (fun r_7 p_6 => p_6)
  · refine zH_eqc (rfl : (μ 1 4).toInt = _) (iL (2) (2) rfl) (fun c_8e c_8 => ?_) (fun c_8e c_8 => ?_)
    · have f_11 : 0 ≤ (μ 1 3).toInt ∧ (μ 1 3).toInt ≤ 1500 := h.2.2
      refine zH_lt (fun x_9 e_10 => ?_)
      have q_12 : x_9.toInt = (μ 1 3).toInt := (congrArg Int32.toInt e_10).trans (rfl : (μ 1 3).toInt = _)
      exact zH_mono (tX7_advance_l25 hC 100000 x_9 μ h (by omega)) (fun r_14 p_13 => p_13)
    · have q_15 : (-1 : Int32).toInt = (-1 : Int) := (iL (-1) (-1) rfl)
      have f_16 : 0 ≤ (μ 1 3).toInt ∧ (μ 1 3).toInt ≤ 1500 := h.2.2
      exact zH_mono (tX7_advance_l25 hC 100000 (-1 : Int32) μ h (by omega)) (fun r_18 p_17 => p_17)
theorem tX7_open {C : gM} {μ : gM}  (hC : hL C) (h : JL C μ)  : zH (fX7_open μ) (fun ν => JL C ν) := by
  unfold fX7_open
  refine zH_lt (fun μ_1 e_2 => ?_)
  have h_3 : JL C μ_1 := by rw [e_2]; exact JL.up h (by decide) (fun _ => show 0 ≤ (0 : Int32).toInt ∧ (0 : Int32).toInt ≤ 1500 from by have q_4 : (0 : Int32).toInt = (0 : Int) := (iL (0) (0) rfl); omega)
  have q_5 : (μ_1 1 3).toInt = (0 : Int) := by rw [e_2]; exact (show (0 : Int32).toInt = _ from (iL (0) (0) rfl))
  refine zH_lt (fun μ_6 e_7 => ?_)
  have h_8 : JL C μ_6 := by rw [e_7]; exact JL.up h_3 (by decide) (fun e => absurd e (by decide))
  have q_9 : (μ_6 1 3).toInt = (μ_1 1 3).toInt := by rw [e_7]; first | done | rfl
  refine zH_lt (fun μ_10 e_11 => ?_)
  have h_12 : JL C μ_10 := by rw [e_11]; exact JL.up h_8 (by decide) (fun e => absurd e (by decide))
  have q_13 : (μ_10 1 3).toInt = (μ_6 1 3).toInt := by rw [e_11]; first | done | rfl
  refine zH_lt (fun μ_14 e_15 => ?_)
  have h_16 : JL C μ_14 := by rw [e_15]; exact JL.up h_12 (by decide) (fun e => absurd e (by decide))
  have q_17 : (μ_14 1 3).toInt = (μ_10 1 3).toInt := by rw [e_15]; first | done | rfl
  refine zH_bd (tX7_advance hC h_16) (fun μ_18 p_19 => ?_)
  have h_20 : JL C μ_18 := p_19
  exact zH_some h_20
theorem tX7_isEnded  {μ : gM}    : zH (fX7_isEnded μ) (fun v => v.toInt = 0 ∨ v.toInt = 1) := by
  unfold fX7_isEnded
  refine zH_eqc (rfl : (μ 1 4).toInt = _) (iL (0) (0) rfl) (fun c_1e c_1 => ?_) (fun c_1e c_1 => ?_)
  · have q_2 : (1 : Int32).toInt = (1 : Int) := (iL (1) (1) rfl)
    exact zH_some (show (1 : Int32).toInt = 0 ∨ (1 : Int32).toInt = 1 from by have q_3 : (1 : Int32).toInt = (1 : Int) := (iL (1) (1) rfl); omega)
  · have q_4 : (0 : Int32).toInt = (0 : Int) := (iL (0) (0) rfl)
    exact zH_some (show (0 : Int32).toInt = 0 ∨ (0 : Int32).toInt = 1 from by have q_5 : (0 : Int32).toInt = (0 : Int) := (iL (0) (0) rfl); omega)
theorem tX7_ownWord_l2     : ∀ (n : Nat) (y1 : Int32) (μ : gM), 0 ≤ y1.toInt → y1.toInt ≤ 21 → 21 - y1.toInt < (n : Int) → zH (fX7_ownWord_l2  n y1 μ) (fun v => (-1 : Int) ≤ v.toInt ∧ v.toInt ≤ 20) := by
  intro n
  induction n with
  | zero =>
    intro y1 μ  g0 g1 gm
    exact absurd gm (by omega)
  | succ n ih =>
    intro y1 μ  g0 g1 gm
    rw [fX7_ownWord_l2]
    refine zH_lec (iL (21) (21) rfl) (rfl : y1.toInt = _) (fun c_1 => ?_) (fun c_1 => ?_)
    · have q_2 : (-1 : Int32).toInt = (-1 : Int) := (iL (-1) (-1) rfl)
      exact zH_some (show (-1 : Int) ≤ (-1 : Int32).toInt ∧ (-1 : Int32).toInt ≤ 20 from by have q_3 : (-1 : Int32).toInt = (-1 : Int) := (iL (-1) (-1) rfl); omega)
    · refine zH_eqc (rfl : (μ 1 4).toInt = _) (iL (1) (1) rfl) (fun c_4e c_4 => ?_) (fun c_4e c_4 => ?_)
      · refine zH_ck (zIn (rfl : y1.toInt = _) (by omega) (by omega)) ?_
        refine zH_eqc (rfl : (μ 3 (y1).toNatClampNeg).toInt = _) (rfl : (μ 1 6).toInt = _) (fun c_5e c_5 => ?_) (fun c_5e c_5 => ?_)
        · exact zH_some (show (-1 : Int) ≤ y1.toInt ∧ y1.toInt ≤ 20 from by have q_6 : (y1).toInt = y1.toInt := (rfl : y1.toInt = _); omega)
        · refine zH_lt (fun x_7 e_8 => ?_)
          have q_9 : x_7.toInt = (y1.toInt + (1 : Int)) := (congrArg Int32.toInt e_8).trans (iA (rfl : y1.toInt = _) (iL (1) (1) rfl) (by omega) (by omega))
          exact zH_mono (ih x_7 μ (by omega) (by omega) (by omega)) (fun r_11 p_10 => show (-1 : Int) ≤ r_11.toInt ∧ r_11.toInt ≤ 20 from by have q_12 : (-1 : Int) ≤ r_11.toInt ∧ r_11.toInt ≤ 20 := p_10; omega)
      · have q_13 : (-1 : Int32).toInt = (-1 : Int) := (iL (-1) (-1) rfl)
        exact zH_some (show (-1 : Int) ≤ (-1 : Int32).toInt ∧ (-1 : Int32).toInt ≤ 20 from by have q_14 : (-1 : Int32).toInt = (-1 : Int) := (iL (-1) (-1) rfl); omega)
theorem tX7_ownWord  {μ : gM}    : zH (fX7_ownWord μ) (fun v => (-1 : Int) ≤ v.toInt ∧ v.toInt ≤ 20) := by
  unfold fX7_ownWord
  have q_1 : (0 : Int32).toInt = (0 : Int) := (iL (0) (0) rfl)
  exact zH_mono (tX7_ownWord_l2 100000 (0 : Int32) μ (by omega) (by omega) (by omega)) (fun r_3 p_2 => show (-1 : Int) ≤ r_3.toInt ∧ r_3.toInt ≤ 20 from by have q_4 : (-1 : Int) ≤ r_3.toInt ∧ r_3.toInt ≤ 20 := p_2; omega)
theorem tX7_refuse {C : gM} {a1 : Int32} {a2 : Int32} {μ : gM}  (hC : hL C) (h : JL C μ)  : zH (fX7_refuse a1 a2 μ) (fun r => JL C r.2 ∧ (r.1.toInt = 0)) := by
  unfold fX7_refuse
  refine zH_lt (fun μ_1 e_2 => ?_)
  have h_3 : JL C μ_1 := by rw [e_2]; exact JL.up h (by decide) (fun e => absurd e (by decide))
  have q_4 : (μ_1 1 3).toInt = (μ 1 3).toInt := by rw [e_2]; first | done | rfl
  refine zH_lt (fun μ_5 e_6 => ?_)
  have h_7 : JL C μ_5 := by rw [e_6]; exact JL.up h_3 (by decide) (fun e => absurd e (by decide))
  have q_8 : (μ_5 1 3).toInt = (μ_1 1 3).toInt := by rw [e_6]; first | done | rfl
  have q_9 : (0 : Int32).toInt = (0 : Int) := (iL (0) (0) rfl)
  exact zH_some ⟨h_7, show (0 : Int32).toInt = 0 from by have q_10 : ((0 : Int32)).toInt = (0 : Int) := (iL (0) (0) rfl); omega⟩
theorem tX7_isName  {μ : gM}    : zH (fX7_isName μ) (fun v => v.toInt = 0 ∨ v.toInt = 1) := by
  unfold fX7_isName
  refine zH_eqc (rfl : (μ 1 4).toInt = _) (iL (1) (1) rfl) (fun c_1e c_1 => ?_) (fun c_1e c_1 => ?_)
  · refine zH_bd (tX7_ownWord) (fun x_2 p_3 => ?_)
    have q_4 : (-1 : Int) ≤ x_2.toInt ∧ x_2.toInt ≤ 20 := p_3
    refine zH_eqc (rfl : x_2.toInt = _) (iL (-1) (-1) rfl) (fun c_5e c_5 => ?_) (fun c_5e c_5 => ?_)
    · have q_6 : (1 : Int32).toInt = (1 : Int) := (iL (1) (1) rfl)
      exact zH_some (show (1 : Int32).toInt = 0 ∨ (1 : Int32).toInt = 1 from by have q_7 : (1 : Int32).toInt = (1 : Int) := (iL (1) (1) rfl); omega)
    · have q_8 : (0 : Int32).toInt = (0 : Int) := (iL (0) (0) rfl)
      exact zH_some (show (0 : Int32).toInt = 0 ∨ (0 : Int32).toInt = 1 from by have q_9 : (0 : Int32).toInt = (0 : Int) := (iL (0) (0) rfl); omega)
  · have q_10 : (0 : Int32).toInt = (0 : Int) := (iL (0) (0) rfl)
    exact zH_some (show (0 : Int32).toInt = 0 ∨ (0 : Int32).toInt = 1 from by have q_11 : (0 : Int32).toInt = (0 : Int) := (iL (0) (0) rfl); omega)
theorem tX7_pass {C : gM} {a1 : Int32} {μ : gM}  (hC : hL C) (h : JL C μ)  : zH (fX7_pass a1 μ) (fun r => JL C r.2 ∧ (r.1.toInt = 0 ∨ r.1.toInt = 1)) := by
  unfold fX7_pass
  refine zH_bd (tX7_ownWord) (fun x_1 p_2 => ?_)
  have q_3 : (-1 : Int) ≤ x_1.toInt ∧ x_1.toInt ≤ 20 := p_2
  refine zH_eqc (rfl : x_1.toInt = _) (rfl : a1.toInt = _) (fun c_4e c_4 => ?_) (fun c_4e c_4 => ?_)
  · refine zH_bd (tX7_advance hC h) (fun μ_5 p_6 => ?_)
    have h_7 : JL C μ_5 := p_6
    have q_8 : (1 : Int32).toInt = (1 : Int) := (iL (1) (1) rfl)
    exact zH_some ⟨h_7, show (1 : Int32).toInt = 0 ∨ (1 : Int32).toInt = 1 from by have q_9 : ((1 : Int32)).toInt = (1 : Int) := (iL (1) (1) rfl); omega⟩
  · have q_10 : (1 : Int32).toInt = (1 : Int) := (iL (1) (1) rfl)
    refine zH_bp (tX7_refuse hC h) (fun x_11 μ_12 p_13 => ?_)
    have h_14 : JL C μ_12 := p_13.1
    have q_15 : x_11.toInt = 0 := p_13.2
    refine zH_ck (zBo (show (x_11).toInt = 0 ∨ (x_11).toInt = 1 from by have q_16 : (x_11).toInt = x_11.toInt := (rfl : x_11.toInt = _); omega)) ?_
    exact zH_some ⟨h_14, show x_11.toInt = 0 ∨ x_11.toInt = 1 from by have q_17 : (x_11).toInt = x_11.toInt := (rfl : x_11.toInt = _); omega⟩
theorem tX7_number {C : gM} {a1 : Int32} {a2 : Int32} {μ : gM}  (hC : hL C) (h : JL C μ)  : zH (fX7_number a1 a2 μ) (fun r => JL C r.2 ∧ (r.1.toInt = -1 ∨ (a1.toInt ≤ r.1.toInt ∧ r.1.toInt ≤ a2.toInt))) := by
  unfold fX7_number
  refine zH_eqc (rfl : (μ 1 4).toInt = _) (iL (2) (2) rfl) (fun c_1e c_1 => ?_) (fun c_1e c_1 => ?_)
  · refine zH_lt (fun x_2 e_3 => ?_)
    refine zH_ltc (rfl : x_2.toInt = _) (rfl : a1.toInt = _) (fun c_4 => ?_) (fun c_4 => ?_)
    · unfold fX7_number_n35
      have q_5 : (4 : Int32).toInt = (4 : Int) := (iL (4) (4) rfl)
      refine zH_bp (tX7_refuse hC h) (fun x_6 μ_7 p_8 => ?_)
      have h_9 : JL C μ_7 := p_8.1
      have q_10 : x_6.toInt = 0 := p_8.2
      have q_11 : (-1 : Int32).toInt = (-1 : Int) := (iL (-1) (-1) rfl)
      exact zH_some ⟨h_9, show (-1 : Int32).toInt = -1 ∨ (a1.toInt ≤ (-1 : Int32).toInt ∧ (-1 : Int32).toInt ≤ a2.toInt) from by have q_12 : ((-1 : Int32)).toInt = (-1 : Int) := (iL (-1) (-1) rfl); omega⟩
    · refine zH_lec (rfl : x_2.toInt = _) (rfl : a2.toInt = _) (fun c_13 => ?_) (fun c_13 => ?_)
      · refine zH_bd (tX7_advance hC h) (fun μ_14 p_15 => ?_)
        have h_16 : JL C μ_14 := p_15
        exact zH_some ⟨h_16, show x_2.toInt = -1 ∨ (a1.toInt ≤ x_2.toInt ∧ x_2.toInt ≤ a2.toInt) from by have q_17 : (x_2).toInt = x_2.toInt := (rfl : x_2.toInt = _); omega⟩
      · unfold fX7_number_n35
        have q_18 : (4 : Int32).toInt = (4 : Int) := (iL (4) (4) rfl)
        refine zH_bp (tX7_refuse hC h) (fun x_19 μ_20 p_21 => ?_)
        have h_22 : JL C μ_20 := p_21.1
        have q_23 : x_19.toInt = 0 := p_21.2
        have q_24 : (-1 : Int32).toInt = (-1 : Int) := (iL (-1) (-1) rfl)
        exact zH_some ⟨h_22, show (-1 : Int32).toInt = -1 ∨ (a1.toInt ≤ (-1 : Int32).toInt ∧ (-1 : Int32).toInt ≤ a2.toInt) from by have q_25 : ((-1 : Int32)).toInt = (-1 : Int) := (iL (-1) (-1) rfl); omega⟩
  · have q_26 : (1 : Int32).toInt = (1 : Int) := (iL (1) (1) rfl)
    refine zH_bp (tX7_refuse hC h) (fun x_27 μ_28 p_29 => ?_)
    have h_30 : JL C μ_28 := p_29.1
    have q_31 : x_27.toInt = 0 := p_29.2
    have q_32 : (-1 : Int32).toInt = (-1 : Int) := (iL (-1) (-1) rfl)
    exact zH_some ⟨h_30, show (-1 : Int32).toInt = -1 ∨ (a1.toInt ≤ (-1 : Int32).toInt ∧ (-1 : Int32).toInt ≤ a2.toInt) from by have q_33 : ((-1 : Int32)).toInt = (-1 : Int) := (iL (-1) (-1) rfl); omega⟩
theorem tX7_passIfThere {C : gM} {a1 : Int32} {μ : gM}  (hC : hL C) (h : JL C μ)  : zH (fX7_passIfThere a1 μ) (fun r => JL C r.2 ∧ (r.1.toInt = 0 ∨ r.1.toInt = 1)) := by
  unfold fX7_passIfThere
  refine zH_bd (tX7_ownWord) (fun x_1 p_2 => ?_)
  have q_3 : (-1 : Int) ≤ x_1.toInt ∧ x_1.toInt ≤ 20 := p_2
  refine zH_eqc (rfl : x_1.toInt = _) (rfl : a1.toInt = _) (fun c_4e c_4 => ?_) (fun c_4e c_4 => ?_)
  · refine zH_bd (tX7_advance hC h) (fun μ_5 p_6 => ?_)
    have h_7 : JL C μ_5 := p_6
    have q_8 : (1 : Int32).toInt = (1 : Int) := (iL (1) (1) rfl)
    exact zH_some ⟨h_7, show (1 : Int32).toInt = 0 ∨ (1 : Int32).toInt = 1 from by have q_9 : ((1 : Int32)).toInt = (1 : Int) := (iL (1) (1) rfl); omega⟩
  · have q_10 : (0 : Int32).toInt = (0 : Int) := (iL (0) (0) rfl)
    exact zH_some ⟨h, show (0 : Int32).toInt = 0 ∨ (0 : Int32).toInt = 1 from by have q_11 : ((0 : Int32)).toInt = (0 : Int) := (iL (0) (0) rfl); omega⟩
theorem tX7_known {C : gM} {p1 : Nat} {a2 : Int32} {μ : gM}  (hC : hL C) (hs : sN p1) (hn : NB p1 C) (h : JL C μ)  : zH (fX7_known p1 a2 μ) (fun r => JL C r.2 ∧ (r.1.toInt = -1 ∨ (0 ≤ r.1.toInt ∧ r.1.toInt < 8 ∧ (a2.toInt = 0 → r.1.toInt < 6) ∧ (a2.toInt = 2 → r.1.toInt < 5)))) := by
  unfold fX7_known
  refine zH_bd (tX7_isName) (fun x_1 p_2 => ?_)
  have q_3 : x_1.toInt = 0 ∨ x_1.toInt = 1 := p_2
  refine zH_eqc (rfl : x_1.toInt = _) (iL (0) (0) rfl) (fun c_4e c_4 => ?_) (fun c_4e c_4 => ?_)
  · have q_5 : (1 : Int32).toInt = (1 : Int) := (iL (1) (1) rfl)
    refine zH_bp (tX7_refuse hC h) (fun x_6 μ_7 p_8 => ?_)
    have h_9 : JL C μ_7 := p_8.1
    have q_10 : x_6.toInt = 0 := p_8.2
    have q_11 : (-1 : Int32).toInt = (-1 : Int) := (iL (-1) (-1) rfl)
    exact zH_some ⟨h_9, show (-1 : Int32).toInt = -1 ∨ (0 ≤ (-1 : Int32).toInt ∧ (-1 : Int32).toInt < 8 ∧ (a2.toInt = 0 → (-1 : Int32).toInt < 6) ∧ (a2.toInt = 2 → (-1 : Int32).toInt < 5)) from by have q_12 : ((-1 : Int32)).toInt = (-1 : Int) := (iL (-1) (-1) rfl); omega⟩
  · refine zH_bd (tX1_find (h.nb hs hn)) (fun x_13 p_14 => ?_)
    have q_15 : x_13.toInt = -1 ∨ (0 ≤ x_13.toInt ∧ x_13.toInt < 8 ∧ (a2.toInt = 0 → x_13.toInt < 6) ∧ (a2.toInt = 2 → x_13.toInt < 5)) := p_14
    refine zH_eqc (rfl : x_13.toInt = _) (iL (-1) (-1) rfl) (fun c_16e c_16 => ?_) (fun c_16e c_16 => ?_)
    · have q_17 : (3 : Int32).toInt = (3 : Int) := (iL (3) (3) rfl)
      refine zH_bp (tX7_refuse hC h) (fun x_18 μ_19 p_20 => ?_)
      have h_21 : JL C μ_19 := p_20.1
      have q_22 : x_18.toInt = 0 := p_20.2
      have q_23 : (-1 : Int32).toInt = (-1 : Int) := (iL (-1) (-1) rfl)
      exact zH_some ⟨h_21, show (-1 : Int32).toInt = -1 ∨ (0 ≤ (-1 : Int32).toInt ∧ (-1 : Int32).toInt < 8 ∧ (a2.toInt = 0 → (-1 : Int32).toInt < 6) ∧ (a2.toInt = 2 → (-1 : Int32).toInt < 5)) from by have q_24 : ((-1 : Int32)).toInt = (-1 : Int) := (iL (-1) (-1) rfl); omega⟩
    · refine zH_bd (tX7_advance hC h) (fun μ_25 p_26 => ?_)
      have h_27 : JL C μ_25 := p_26
      exact zH_some ⟨h_27, show x_13.toInt = -1 ∨ (0 ≤ x_13.toInt ∧ x_13.toInt < 8 ∧ (a2.toInt = 0 → x_13.toInt < 6) ∧ (a2.toInt = 2 → x_13.toInt < 5)) from by have q_28 : (x_13).toInt = x_13.toInt := (rfl : x_13.toInt = _); omega⟩
theorem tX7_knownMember {C : gM} {p1 : Nat} {μ : gM}  (hC : hL C) (hs : sN p1) (hn : NB p1 C) (h : JL C μ)  : zH (fX7_knownMember p1 μ) (fun r => JL C r.2 ∧ (r.1.toInt = -1 ∨ (0 ≤ r.1.toInt ∧ r.1.toInt ≤ 29))) := by
  unfold fX7_knownMember
  have q_1 : (0 : Int32).toInt = (0 : Int) := (iL (0) (0) rfl)
  refine zH_bp (tX7_known hC hs hn h) (fun x_2 μ_3 p_4 => ?_)
  have h_5 : JL C μ_3 := p_4.1
  have q_6 : x_2.toInt = -1 ∨ (0 ≤ x_2.toInt ∧ x_2.toInt < 8 ∧ ((0 : Int32).toInt = 0 → x_2.toInt < 6) ∧ ((0 : Int32).toInt = 2 → x_2.toInt < 5)) := p_4.2
  refine zH_eqc (rfl : x_2.toInt = _) (iL (-1) (-1) rfl) (fun c_7e c_7 => ?_) (fun c_7e c_7 => ?_)
  · have q_8 : (-1 : Int32).toInt = (-1 : Int) := (iL (-1) (-1) rfl)
    exact zH_some ⟨h_5, show (-1 : Int32).toInt = -1 ∨ (0 ≤ (-1 : Int32).toInt ∧ (-1 : Int32).toInt ≤ 29) from by have q_9 : ((-1 : Int32)).toInt = (-1 : Int) := (iL (-1) (-1) rfl); omega⟩
  · have q_10 : (8 : Int32).toInt = (8 : Int) := (iL (8) (8) rfl)
    refine zH_bp (tX7_pass hC h_5) (fun x_11 μ_12 p_13 => ?_)
    have h_14 : JL C μ_12 := p_13.1
    have q_15 : x_11.toInt = 0 ∨ x_11.toInt = 1 := p_13.2
    refine zH_eqc (rfl : x_11.toInt = _) (iL (0) (0) rfl) (fun c_16e c_16 => ?_) (fun c_16e c_16 => ?_)
    · have q_17 : (-1 : Int32).toInt = (-1 : Int) := (iL (-1) (-1) rfl)
      exact zH_some ⟨h_14, show (-1 : Int32).toInt = -1 ∨ (0 ≤ (-1 : Int32).toInt ∧ (-1 : Int32).toInt ≤ 29) from by have q_18 : ((-1 : Int32)).toInt = (-1 : Int) := (iL (-1) (-1) rfl); omega⟩
    · refine zH_lt (fun x_19 e_20 => ?_)
      have q_21 : (2 : Int32).toInt = (2 : Int) := (iL (2) (2) rfl)
      refine zH_bp (tX7_known hC hs hn h_14) (fun x_22 μ_23 p_24 => ?_)
      have h_25 : JL C μ_23 := p_24.1
      have q_26 : x_22.toInt = -1 ∨ (0 ≤ x_22.toInt ∧ x_22.toInt < 8 ∧ ((2 : Int32).toInt = 0 → x_22.toInt < 6) ∧ ((2 : Int32).toInt = 2 → x_22.toInt < 5)) := p_24.2
      refine zH_eqc (rfl : x_22.toInt = _) (iL (-1) (-1) rfl) (fun c_27e c_27 => ?_) (fun c_27e c_27 => ?_)
      · have q_28 : (-1 : Int32).toInt = (-1 : Int) := (iL (-1) (-1) rfl)
        exact zH_some ⟨h_25, show (-1 : Int32).toInt = -1 ∨ (0 ≤ (-1 : Int32).toInt ∧ (-1 : Int32).toInt ≤ 29) from by have q_29 : ((-1 : Int32)).toInt = (-1 : Int) := (iL (-1) (-1) rfl); omega⟩
      · refine zH_bd (tX1_isMember (h_25.nb hs hn)) (fun x_30 p_31 => ?_)
        have q_32 : (x_30.toInt = 0 ∨ x_30.toInt = 1) ∧ (x_30.toInt = 1 → 0 ≤ x_22.toInt ∧ x_22.toInt ≤ 4 ∧ 0 ≤ x_2.toInt ∧ x_2.toInt ≤ 5) := p_31
        refine zH_eqc (rfl : x_30.toInt = _) (iL (0) (0) rfl) (fun c_33e c_33 => ?_) (fun c_33e c_33 => ?_)
        · have q_34 : (5 : Int32).toInt = (5 : Int) := (iL (5) (5) rfl)
          refine zH_bp (tX7_refuse hC h_25) (fun x_35 μ_36 p_37 => ?_)
          have h_38 : JL C μ_36 := p_37.1
          have q_39 : x_35.toInt = 0 := p_37.2
          have q_40 : (-1 : Int32).toInt = (-1 : Int) := (iL (-1) (-1) rfl)
          exact zH_some ⟨h_38, show (-1 : Int32).toInt = -1 ∨ (0 ≤ (-1 : Int32).toInt ∧ (-1 : Int32).toInt ≤ 29) from by have q_41 : ((-1 : Int32)).toInt = (-1 : Int) := (iL (-1) (-1) rfl); omega⟩
        · have q_42 : ((x_22 * (6 : Int32)) + x_2).toInt = ((x_22.toInt * (6 : Int)) + x_2.toInt) := (iA (iM (rfl : x_22.toInt = _) (iL (6) (6) rfl) (by omega) (by omega)) (rfl : x_2.toInt = _) (by omega) (by omega))
          exact zH_some ⟨h_25, show ((x_22 * (6 : Int32)) + x_2).toInt = -1 ∨ (0 ≤ ((x_22 * (6 : Int32)) + x_2).toInt ∧ ((x_22 * (6 : Int32)) + x_2).toInt ≤ 29) from by have q_43 : (((x_22 * (6 : Int32)) + x_2)).toInt = ((x_22.toInt * (6 : Int)) + x_2.toInt) := (iA (iM (rfl : x_22.toInt = _) (iL (6) (6) rfl) (by omega) (by omega)) (rfl : x_2.toInt = _) (by omega) (by omega)); omega⟩
theorem tX7_passStop {C : gM} {μ : gM}  (hC : hL C) (h : JL C μ)  : zH (fX7_passStop μ) (fun r => JL C r.2 ∧ (r.1.toInt = 0 ∨ r.1.toInt = 1)) := by
  unfold fX7_passStop
  refine zH_eqc (rfl : (μ 1 4).toInt = _) (iL (3) (3) rfl) (fun c_1e c_1 => ?_) (fun c_1e c_1 => ?_)
  · refine zH_bd (tX7_advance hC h) (fun μ_2 p_3 => ?_)
    have h_4 : JL C μ_2 := p_3
    have q_5 : (1 : Int32).toInt = (1 : Int) := (iL (1) (1) rfl)
    exact zH_some ⟨h_4, show (1 : Int32).toInt = 0 ∨ (1 : Int32).toInt = 1 from by have q_6 : ((1 : Int32)).toInt = (1 : Int) := (iL (1) (1) rfl); omega⟩
  · have q_7 : (1 : Int32).toInt = (1 : Int) := (iL (1) (1) rfl)
    refine zH_bp (tX7_refuse hC h) (fun x_8 μ_9 p_10 => ?_)
    have h_11 : JL C μ_9 := p_10.1
    have q_12 : x_8.toInt = 0 := p_10.2
    refine zH_ck (zBo (show (x_8).toInt = 0 ∨ (x_8).toInt = 1 from by have q_13 : (x_8).toInt = x_8.toInt := (rfl : x_8.toInt = _); omega)) ?_
    exact zH_some ⟨h_11, show x_8.toInt = 0 ∨ x_8.toInt = 1 from by have q_14 : (x_8).toInt = x_8.toInt := (rfl : x_8.toInt = _); omega⟩
theorem tX7_isStop  {μ : gM}    : zH (fX7_isStop μ) (fun v => v.toInt = 0 ∨ v.toInt = 1) := by
  unfold fX7_isStop
  refine zH_eqc (rfl : (μ 1 4).toInt = _) (iL (3) (3) rfl) (fun c_1e c_1 => ?_) (fun c_1e c_1 => ?_)
  · have q_2 : (1 : Int32).toInt = (1 : Int) := (iL (1) (1) rfl)
    exact zH_some (show (1 : Int32).toInt = 0 ∨ (1 : Int32).toInt = 1 from by have q_3 : (1 : Int32).toInt = (1 : Int) := (iL (1) (1) rfl); omega)
  · have q_4 : (0 : Int32).toInt = (0 : Int) := (iL (0) (0) rfl)
    exact zH_some (show (0 : Int32).toInt = 0 ∨ (0 : Int32).toInt = 1 from by have q_5 : (0 : Int32).toInt = (0 : Int) := (iL (0) (0) rfl); omega)
