/-! small sets of gates as bits -/
theorem K.m48 {T : Int32} {C μ : gM} (h : K T C μ) {e : Int32} {x : Int} (he : e.toInt = x) (h0 : 48 ≤ x) (h1 : x ≤ 52) : 0 ≤ (μ 269 e.toNatClampNeg).toInt ∧ (μ 269 e.toNatClampNeg).toInt ≤ 63 := by
  have q := zCl he (by omega)
  have := h.2.2.2.1.2.2.2.2.2 (x.toNat - 48) (by omega)
  rw [show e.toNatClampNeg = 48 + (x.toNat - 48) by omega]
  exact this
theorem K.m43 {T : Int32} {C μ : gM} (h : K T C μ) {e : Int32} {x : Int} (he : e.toInt = x) (h0 : 43 ≤ x) (h1 : x ≤ 47) : 0 ≤ (μ 269 e.toNatClampNeg).toInt ∧ (μ 269 e.toNatClampNeg).toInt ≤ 8 := by
  have q := zCl he (by omega)
  have := (h.2.2.2.1.2.2.2.2.1 (x.toNat - 43) (by omega)).1
  rw [show e.toNatClampNeg = 43 + (x.toNat - 43) by omega]
  exact this
theorem K.m43p {T : Int32} {C μ : gM} (h : K T C μ) {e : Int32} {x : Int} (he : e.toInt = x) (h0 : 43 ≤ x) (h1 : x - 43 < (μ 269 2).toInt) : 1 ≤ (μ 269 e.toNatClampNeg).toInt := by
  have q := zCl he (by omega)
  have f : (μ 269 2).toInt ≤ 5 := h.2.2.2.1.2.2.1.2
  have := (h.2.2.2.1.2.2.2.2.1 (x.toNat - 43) (by omega)).2 (by omega)
  rw [show e.toNatClampNeg = 43 + (x.toNat - 43) by omega]
  exact this
theorem toNat63 {x : Int32} (h0 : 0 ≤ x.toInt) (h1 : x.toInt ≤ 63) : x.toBitVec.toNat ≤ 63 := by
  have e : x.toInt = x.toBitVec.toInt := rfl
  rw [e, BitVec.toInt_eq_toNat_cond] at h0 h1
  split at h0 <;> omega
theorem of63 {x : Int32} (h : x.toBitVec.toNat ≤ 63) : 0 ≤ x.toInt ∧ x.toInt ≤ 63 := by
  have e : x.toInt = x.toBitVec.toInt := rfl
  rw [e, BitVec.toInt_eq_toNat_cond]
  split <;> omega
theorem and63 {x w : Int32} (h0 : 0 ≤ x.toInt) (h1 : x.toInt ≤ 63) : 0 ≤ (x &&& w).toInt ∧ (x &&& w).toInt ≤ 63 := by
  apply of63
  rw [Int32.toBitVec_and, BitVec.toNat_and]
  exact Nat.le_trans Nat.and_le_left (toNat63 h0 h1)
theorem bits_dec : ∀ n : Fin 64, n.val ≠ 0 → 0 ≤ (Int32.ofNat n.val &&& (Int32.ofNat n.val - 1)).toInt ∧ (Int32.ofNat n.val &&& (Int32.ofNat n.val - 1)).toInt < (Int32.ofNat n.val).toInt := by decide +kernel
theorem tX12_bits_l4 : ∀ (n : Nat) (y1 y2 : Int32) (μ : gM), 0 ≤ y2.toInt → y2.toInt ≤ 63 → y2.toInt < (n : Int) → zH (fX12_bits_l4 n y1 y2 μ) (fun _ => True) := by
  intro n
  induction n with
  | zero =>
    intro y1 y2 μ g0 g1 gm
    exact absurd gm (by omega)
  | succ n ih =>
    intro y1 y2 μ g0 g1 gm
    rw [fX12_bits_l4]
    refine zH_eqc (rfl : y2.toInt = _) (iL (0) (0) rfl) (fun _ _ => zH_some trivial) (fun _ c => ?_)
    refine zH_lt (fun x1 e1 => ?_)
    refine zH_lt (fun x2 e2 => ?_)
    have b : 0 ≤ x2.toInt ∧ x2.toInt < y2.toInt := by
      obtain ⟨m, rfl⟩ := i32_nat (N := 64) g0 (by omega) (by decide)
      rw [e2]
      exact bits_dec m (fun w => c (by rw [w]; rfl))
    exact ih x1 x2 μ b.1 (by omega) (by omega)
theorem tX12_bits {a1 : Int32} {μ : gM} (g0 : 0 ≤ a1.toInt) (g1 : a1.toInt ≤ 63) : zH (fX12_bits a1 μ) (fun _ => True) := by
  unfold fX12_bits
  exact tX12_bits_l4 100000 (0 : Int32) a1 μ g0 g1 (by omega)
theorem tX12_gates {T : Int32} {C : gM} {μ : gM}  (h : K T C μ)  : zH (fX12_gates μ) (fun v => 0 ≤ v.toInt ∧ v.toInt ≤ 6) := by
  unfold fX12_gates
  have f_1 : 0 ≤ (μ 269 0).toInt ∧ (μ 269 0).toInt ≤ 6 := h.2.2.2.1.1
  exact zH_some (show 0 ≤ (μ 269 0).toInt ∧ (μ 269 0).toInt ≤ 6 from by have q_2 : (μ 269 0).toInt = (μ 269 0).toInt := (rfl : (μ 269 0).toInt = _); omega)
theorem tX12_groups {T : Int32} {C : gM} {μ : gM}  (h : K T C μ)  : zH (fX12_groups μ) (fun v => 0 ≤ v.toInt ∧ v.toInt ≤ 5 ∧ v.toInt = (μ 269 2).toInt) := by
  unfold fX12_groups
  have f_1 : 0 ≤ (μ 269 2).toInt ∧ (μ 269 2).toInt ≤ 5 := h.2.2.2.1.2.2.1
  exact zH_some (show 0 ≤ (μ 269 2).toInt ∧ (μ 269 2).toInt ≤ 5 ∧ (μ 269 2).toInt = (μ 269 2).toInt from by have q_2 : (μ 269 2).toInt = (μ 269 2).toInt := (rfl : (μ 269 2).toInt = _); omega)
theorem tX12_isGroup {T : Int32} {C : gM} {a1 : Int32} {μ : gM}  (h : K T C μ)  : zH (fX12_isGroup a1 μ) (fun v => (v.toInt = 0 ∨ v.toInt = 1) ∧ (v.toInt = 1 → 0 ≤ a1.toInt ∧ a1.toInt ≤ 4 ∧ a1.toInt < (μ 269 2).toInt)) := by
  unfold fX12_isGroup
  refine zH_bd (tX12_groups h) (fun x_1 p_2 => ?_)
  have q_3 : 0 ≤ x_1.toInt ∧ x_1.toInt ≤ 5 ∧ x_1.toInt = (μ 269 2).toInt := p_2
  have f_4 : 0 ≤ (μ 269 2).toInt ∧ (μ 269 2).toInt ≤ 5 := h.2.2.2.1.2.2.1
  refine zH_bd (tX12_isIn (i64 (rfl : a1.toInt = _)) (iLL (0) (0) rfl) (i64 (iS (rfl : x_1.toInt = _) (iL (1) (1) rfl) (by omega) (by omega)))) (fun x_5 p_6 => ?_)
  have q_7 : (x_5.toInt = 0 ∨ x_5.toInt = 1) ∧ (x_5.toInt = 1 → (0 : Int) ≤ a1.toInt ∧ a1.toInt ≤ (x_1.toInt - (1 : Int))) ∧ (x_5.toInt = 0 → a1.toInt < (0 : Int) ∨ (x_1.toInt - (1 : Int)) < a1.toInt) := p_6
  refine zH_ck (zBo (show (x_5).toInt = 0 ∨ (x_5).toInt = 1 from by have q_8 : (x_5).toInt = x_5.toInt := (rfl : x_5.toInt = _); omega)) ?_
  exact zH_some (show (x_5.toInt = 0 ∨ x_5.toInt = 1) ∧ (x_5.toInt = 1 → 0 ≤ a1.toInt ∧ a1.toInt ≤ 4 ∧ a1.toInt < (μ 269 2).toInt) from by have q_9 : (x_5).toInt = x_5.toInt := (rfl : x_5.toInt = _); omega)
theorem tX12_isGate {T : Int32} {C : gM} {a1 : Int32} {μ : gM}  (h : K T C μ)  : zH (fX12_isGate a1 μ) (fun v => (v.toInt = 0 ∨ v.toInt = 1) ∧ (v.toInt = 1 → 0 ≤ a1.toInt ∧ a1.toInt ≤ 5)) := by
  unfold fX12_isGate
  refine zH_bd (tX12_gates h) (fun x_1 p_2 => ?_)
  have q_3 : 0 ≤ x_1.toInt ∧ x_1.toInt ≤ 6 := p_2
  refine zH_bd (tX12_isIn (i64 (rfl : a1.toInt = _)) (iLL (0) (0) rfl) (i64 (iS (rfl : x_1.toInt = _) (iL (1) (1) rfl) (by omega) (by omega)))) (fun x_4 p_5 => ?_)
  have q_6 : (x_4.toInt = 0 ∨ x_4.toInt = 1) ∧ (x_4.toInt = 1 → (0 : Int) ≤ a1.toInt ∧ a1.toInt ≤ (x_1.toInt - (1 : Int))) ∧ (x_4.toInt = 0 → a1.toInt < (0 : Int) ∨ (x_1.toInt - (1 : Int)) < a1.toInt) := p_5
  refine zH_ck (zBo (show (x_4).toInt = 0 ∨ (x_4).toInt = 1 from by have q_7 : (x_4).toInt = x_4.toInt := (rfl : x_4.toInt = _); omega)) ?_
  exact zH_some (show (x_4.toInt = 0 ∨ x_4.toInt = 1) ∧ (x_4.toInt = 1 → 0 ≤ a1.toInt ∧ a1.toInt ≤ 5) from by have q_8 : (x_4).toInt = x_4.toInt := (rfl : x_4.toInt = _); omega)
theorem tX12_isMember {T : Int32} {C : gM} {a1 : Int32} {a2 : Int32} {μ : gM}  (h : K T C μ)  : zH (fX12_isMember a1 a2 μ) (fun v => (v.toInt = 0 ∨ v.toInt = 1) ∧ (v.toInt = 1 → 0 ≤ a1.toInt ∧ a1.toInt ≤ 4 ∧ 0 ≤ a2.toInt ∧ a2.toInt ≤ 5)) := by
  unfold fX12_isMember
  refine zH_bd (tX12_isGroup h) (fun x_1 p_2 => ?_)
  have q_3 : (x_1.toInt = 0 ∨ x_1.toInt = 1) ∧ (x_1.toInt = 1 → 0 ≤ a1.toInt ∧ a1.toInt ≤ 4 ∧ a1.toInt < (μ 269 2).toInt) := p_2
  have f_4 : 0 ≤ (μ 269 2).toInt ∧ (μ 269 2).toInt ≤ 5 := h.2.2.2.1.2.2.1
  refine zH_eqc (rfl : x_1.toInt = _) (iL (0) (0) rfl) (fun c_5e c_5 => ?_) (fun c_5e c_5 => ?_)
  · have q_6 : (0 : Int32).toInt = (0 : Int) := (iL (0) (0) rfl)
    exact zH_some (show ((0 : Int32).toInt = 0 ∨ (0 : Int32).toInt = 1) ∧ ((0 : Int32).toInt = 1 → 0 ≤ a1.toInt ∧ a1.toInt ≤ 4 ∧ 0 ≤ a2.toInt ∧ a2.toInt ≤ 5) from by have q_7 : (0 : Int32).toInt = (0 : Int) := (iL (0) (0) rfl); omega)
  · refine zH_bd (tX12_isGate h) (fun x_8 p_9 => ?_)
    have q_10 : (x_8.toInt = 0 ∨ x_8.toInt = 1) ∧ (x_8.toInt = 1 → 0 ≤ a2.toInt ∧ a2.toInt ≤ 5) := p_9
    refine zH_eqc (rfl : x_8.toInt = _) (iL (0) (0) rfl) (fun c_11e c_11 => ?_) (fun c_11e c_11 => ?_)
    · have q_12 : (0 : Int32).toInt = (0 : Int) := (iL (0) (0) rfl)
      exact zH_some (show ((0 : Int32).toInt = 0 ∨ (0 : Int32).toInt = 1) ∧ ((0 : Int32).toInt = 1 → 0 ≤ a1.toInt ∧ a1.toInt ≤ 4 ∧ 0 ≤ a2.toInt ∧ a2.toInt ≤ 5) from by have q_13 : (0 : Int32).toInt = (0 : Int) := (iL (0) (0) rfl); omega)
    · refine zH_ck (zIn (iA (iL (48) (48) rfl) (rfl : a1.toInt = _) (by omega) (by omega)) (by omega) (by omega)) ?_
      refine zH_bd (tX12_isOf) (fun x_14 p_15 => ?_)
      have q_16 : x_14.toInt = 0 ∨ x_14.toInt = 1 := p_15
      refine zH_eqc (rfl : x_14.toInt = _) (iL (0) (0) rfl) (fun c_17e c_17 => ?_) (fun c_17e c_17 => ?_)
      · have q_18 : (0 : Int32).toInt = (0 : Int) := (iL (0) (0) rfl)
        exact zH_some (show ((0 : Int32).toInt = 0 ∨ (0 : Int32).toInt = 1) ∧ ((0 : Int32).toInt = 1 → 0 ≤ a1.toInt ∧ a1.toInt ≤ 4 ∧ 0 ≤ a2.toInt ∧ a2.toInt ≤ 5) from by have q_19 : (0 : Int32).toInt = (0 : Int) := (iL (0) (0) rfl); omega)
      · have q_20 : (1 : Int32).toInt = (1 : Int) := (iL (1) (1) rfl)
        exact zH_some (show ((1 : Int32).toInt = 0 ∨ (1 : Int32).toInt = 1) ∧ ((1 : Int32).toInt = 1 → 0 ≤ a1.toInt ∧ a1.toInt ≤ 4 ∧ 0 ≤ a2.toInt ∧ a2.toInt ≤ 5) from by have q_21 : (1 : Int32).toInt = (1 : Int) := (iL (1) (1) rfl); omega)
theorem tX12_isUp  {a1 : Int32} {μ : gM}    : zH (fX12_isUp a1 μ) (fun v => v.toInt = 0 ∨ v.toInt = 1) := by
  unfold fX12_isUp
  refine zH_bd (tX12_isOf) (fun x_1 p_2 => ?_)
  have q_3 : x_1.toInt = 0 ∨ x_1.toInt = 1 := p_2
  refine zH_ck (zBo (show (x_1).toInt = 0 ∨ (x_1).toInt = 1 from by have q_4 : (x_1).toInt = x_1.toInt := (rfl : x_1.toInt = _); omega)) ?_
  exact zH_some (show x_1.toInt = 0 ∨ x_1.toInt = 1 from by have q_5 : (x_1).toInt = x_1.toInt := (rfl : x_1.toInt = _); omega)
theorem tX12_areTogether  {a1 : Int32} {a2 : Int32} {μ : gM}    : zH (fX12_areTogether a1 a2 μ) (fun v => v.toInt = 0 ∨ v.toInt = 1) := by
  unfold fX12_areTogether
  refine zH_bd (tX12_isOf) (fun x_1 p_2 => ?_)
  have q_3 : x_1.toInt = 0 ∨ x_1.toInt = 1 := p_2
  refine zH_bd (tX12_isOf) (fun x_4 p_5 => ?_)
  have q_6 : x_4.toInt = 0 ∨ x_4.toInt = 1 := p_5
  refine zH_eqc (rfl : x_1.toInt = _) (rfl : x_4.toInt = _) (fun c_7e c_7 => ?_) (fun c_7e c_7 => ?_)
  · have q_8 : (1 : Int32).toInt = (1 : Int) := (iL (1) (1) rfl)
    exact zH_some (show (1 : Int32).toInt = 0 ∨ (1 : Int32).toInt = 1 from by have q_9 : (1 : Int32).toInt = (1 : Int) := (iL (1) (1) rfl); omega)
  · have q_10 : (0 : Int32).toInt = (0 : Int) := (iL (0) (0) rfl)
    exact zH_some (show (0 : Int32).toInt = 0 ∨ (0 : Int32).toInt = 1 from by have q_11 : (0 : Int32).toInt = (0 : Int) := (iL (0) (0) rfl); omega)
theorem tX12_doesHold  {a1 : Int32} {a2 : Int32} {μ : gM}   (g0 : 0 ≤ a1.toInt) (g1 : a1.toInt ≤ 4) (g2 : 0 ≤ a2.toInt) (g3 : a2.toInt ≤ 5) : zH (fX12_doesHold a1 a2 μ) (fun v => v.toInt = 0 ∨ v.toInt = 1) := by
  unfold fX12_doesHold
  refine zH_bd (tX12_of (by omega) (by omega) (by omega) (by omega)) (fun x_1 p_2 => ?_)
  have q_3 : x_1.toInt = 6 * a1.toInt + a2.toInt := p_2
  refine zH_ck (zIn (iA (iL (40) (40) rfl) (rfl : x_1.toInt = _) (by omega) (by omega)) (by omega) (by omega)) ?_
  refine zH_eqc (rfl : (μ 272 (((40 : Int32) + x_1)).toNatClampNeg).toInt = _) (iL (2) (2) rfl) (fun c_4e c_4 => ?_) (fun c_4e c_4 => ?_)
  · have q_5 : (1 : Int32).toInt = (1 : Int) := (iL (1) (1) rfl)
    exact zH_some (show (1 : Int32).toInt = 0 ∨ (1 : Int32).toInt = 1 from by have q_6 : (1 : Int32).toInt = (1 : Int) := (iL (1) (1) rfl); omega)
  · have q_7 : (0 : Int32).toInt = (0 : Int) := (iL (0) (0) rfl)
    exact zH_some (show (0 : Int32).toInt = 0 ∨ (0 : Int32).toInt = 1 from by have q_8 : (0 : Int32).toInt = (0 : Int) := (iL (0) (0) rfl); omega)
theorem tX12_wordOf_l26 {T : Int32} {C : gM}    : ∀ (n : Nat) (y1 : Int32) (y2 : Int32) (y3 : Int32) (y4 : Int32) (μ : gM), K T C μ → 0 ≤ y4.toInt → y4.toInt ≤ 24 → 24 - y4.toInt < (n : Int) → zH (fX12_wordOf_l26  n y1 y2 y3 y4 μ) (fun _ => True) := by
  intro n
  induction n with
  | zero =>
    intro y1 y2 y3 y4 μ  h g0 g1 gm
    exact absurd gm (by omega)
  | succ n ih =>
    intro y1 y2 y3 y4 μ  h g0 g1 gm
    rw [fX12_wordOf_l26]
    have f_2 : 0 ≤ (μ 269 3).toInt ∧ (μ 269 3).toInt ≤ 24 := h.2.2.2.1.2.2.2.1
    refine zH_lec (rfl : (μ 269 3).toInt = _) (rfl : y4.toInt = _) (fun c_1 => ?_) (fun c_1 => ?_)
    · have q_3 : (1 : Int32).toInt = (1 : Int) := (iL (1) (1) rfl)
      refine zH_bd (tX12_greater) (fun x_4 p_5 => ?_)
      have q_6 : x_4.toInt = max (1 : Int32).toInt y3.toInt := p_5
      exact zH_some trivial
    · refine zH_ck (zIn (iA (iL (113) (113) rfl) (iM (iL (4) (4) rfl) (rfl : y4.toInt = _) (by omega) (by omega)) (by omega) (by omega)) (by omega) (by omega)) ?_
      refine zH_eqc (rfl : (μ 269 (((113 : Int32) + ((4 : Int32) * y4))).toNatClampNeg).toInt = _) (rfl : y1.toInt = _) (fun c_7e c_7 => ?_) (fun c_7e c_7 => ?_)
      · refine zH_ck (zIn (iA (iA (iL (113) (113) rfl) (iM (iL (4) (4) rfl) (rfl : y4.toInt = _) (by omega) (by omega)) (by omega) (by omega)) (iL (1) (1) rfl) (by omega) (by omega)) (by omega) (by omega)) ?_
        refine zH_eqc (rfl : (μ 269 ((((113 : Int32) + ((4 : Int32) * y4)) + (1 : Int32))).toNatClampNeg).toInt = _) (rfl : y2.toInt = _) (fun c_8e c_8 => ?_) (fun c_8e c_8 => ?_)
        · refine zH_ck (zIn (iA (iA (iL (113) (113) rfl) (iM (iL (4) (4) rfl) (rfl : y4.toInt = _) (by omega) (by omega)) (by omega) (by omega)) (iL (2) (2) rfl) (by omega) (by omega)) (by omega) (by omega)) ?_
          refine zH_bd (tX12_isOf) (fun x_9 p_10 => ?_)
          have q_11 : x_9.toInt = 0 ∨ x_9.toInt = 1 := p_10
          refine zH_eqc (rfl : x_9.toInt = _) (iL (0) (0) rfl) (fun c_12e c_12 => ?_) (fun c_12e c_12 => ?_)
          · refine zH_lt (fun x_13 e_14 => ?_)
            have q_15 : x_13.toInt = (y4.toInt + (1 : Int)) := (congrArg Int32.toInt e_14).trans (iA (rfl : y4.toInt = _) (iL (1) (1) rfl) (by omega) (by omega))
            exact ih y1 y2 y3 x_13 μ h (by omega) (by omega) (by omega)
          · refine zH_ck (zIn (iA (iA (iL (113) (113) rfl) (iM (iL (4) (4) rfl) (rfl : y4.toInt = _) (by omega) (by omega)) (by omega) (by omega)) (iL (3) (3) rfl) (by omega) (by omega)) (by omega) (by omega)) ?_
            refine zH_lt (fun x_16 e_17 => ?_)
            refine zH_lt (fun x_18 e_19 => ?_)
            have q_20 : x_18.toInt = (y4.toInt + (1 : Int)) := (congrArg Int32.toInt e_19).trans (iA (rfl : y4.toInt = _) (iL (1) (1) rfl) (by omega) (by omega))
            exact ih y1 y2 x_16 x_18 μ h (by omega) (by omega) (by omega)
        · refine zH_lt (fun x_21 e_22 => ?_)
          have q_23 : x_21.toInt = (y4.toInt + (1 : Int)) := (congrArg Int32.toInt e_22).trans (iA (rfl : y4.toInt = _) (iL (1) (1) rfl) (by omega) (by omega))
          exact ih y1 y2 y3 x_21 μ h (by omega) (by omega) (by omega)
      · refine zH_lt (fun x_24 e_25 => ?_)
        have q_26 : x_24.toInt = (y4.toInt + (1 : Int)) := (congrArg Int32.toInt e_25).trans (iA (rfl : y4.toInt = _) (iL (1) (1) rfl) (by omega) (by omega))
        exact ih y1 y2 y3 x_24 μ h (by omega) (by omega) (by omega)
theorem tX12_wordOf {T : Int32} {C : gM} {a1 : Int32} {a2 : Int32} {μ : gM}  (h : K T C μ) (g0 : 0 ≤ a1.toInt) (g1 : a1.toInt ≤ 4) (g2 : 0 ≤ a2.toInt) (g3 : a2.toInt ≤ 5) : zH (fX12_wordOf a1 a2 μ) (fun _ => True) := by
  unfold fX12_wordOf
  refine zH_bd (tX12_of (by omega) (by omega) (by omega) (by omega)) (fun x_1 p_2 => ?_)
  have q_3 : x_1.toInt = 6 * a1.toInt + a2.toInt := p_2
  refine zH_ck (zIn (iA (iL (10) (10) rfl) (rfl : x_1.toInt = _) (by omega) (by omega)) (by omega) (by omega)) ?_
  refine zH_lt (fun x_4 e_5 => ?_)
  refine zH_eqc (rfl : x_4.toInt = _) (iL (255) (255) rfl) (fun c_6e c_6 => ?_) (fun c_6e c_6 => ?_)
  · exact zH_some trivial
  · have q_7 : (0 : Int32).toInt = (0 : Int) := (iL (0) (0) rfl)
    exact zH_mono (tX12_wordOf_l26 100000 a1 a2 x_4 (0 : Int32) μ h (by omega) (by omega) (by omega)) (fun _ _ => trivial)
theorem tX12_skewOf {T : Int32} {C : gM} {a1 : Int32} {a2 : Int32} {μ : gM}  (h : K T C μ) (g0 : 0 ≤ a1.toInt) (g1 : a1.toInt ≤ 4) (g2 : 0 ≤ a2.toInt) (g3 : a2.toInt ≤ 5) : zH (fX12_skewOf a1 a2 μ) (fun _ => True) := by
  unfold fX12_skewOf
  refine zH_ck (zIn (iA (iL (28) (28) rfl) (rfl : a1.toInt = _) (by omega) (by omega)) (by omega) (by omega)) ?_
  refine zH_bd (tX12_wordOf h (by omega) (by omega) (by omega) (by omega)) (fun x_1 p_2 => ?_)
  exact zH_some trivial
theorem tX12_patienceOf {T : Int32} {C : gM} {a1 : Int32} {a2 : Int32} {μ : gM}  (h : K T C μ) (g0 : 0 ≤ a1.toInt) (g1 : a1.toInt ≤ 4) (g2 : 0 ≤ a2.toInt) (g3 : a2.toInt ≤ 5) : zH (fX12_patienceOf a1 a2 μ) (fun _ => True) := by
  unfold fX12_patienceOf
  refine zH_ck (zIn (iA (iL (28) (28) rfl) (rfl : a1.toInt = _) (by omega) (by omega)) (by omega) (by omega)) ?_
  refine zH_bd (tX12_skewOf h (by omega) (by omega) (by omega) (by omega)) (fun x_1 p_2 => ?_)
  exact zH_some trivial
theorem tX12_isStronger  {a1 : Int32} {a2 : Int32} {a3 : Int32} {a4 : Int32} {μ : gM}    : zH (fX12_isStronger a1 a2 a3 a4 μ) (fun v => v.toInt = 0 ∨ v.toInt = 1) := by
  unfold fX12_isStronger
  refine zH_ltc (rfl : a3.toInt = _) (rfl : a1.toInt = _) (fun c_1 => ?_) (fun c_1 => ?_)
  · have q_2 : (1 : Int32).toInt = (1 : Int) := (iL (1) (1) rfl)
    exact zH_some (show (1 : Int32).toInt = 0 ∨ (1 : Int32).toInt = 1 from by have q_3 : (1 : Int32).toInt = (1 : Int) := (iL (1) (1) rfl); omega)
  · refine zH_eqc (rfl : a1.toInt = _) (rfl : a3.toInt = _) (fun c_4e c_4 => ?_) (fun c_4e c_4 => ?_)
    · refine zH_lec (rfl : a2.toInt = _) (rfl : a4.toInt = _) (fun c_5 => ?_) (fun c_5 => ?_)
      · have q_6 : (0 : Int32).toInt = (0 : Int) := (iL (0) (0) rfl)
        exact zH_some (show (0 : Int32).toInt = 0 ∨ (0 : Int32).toInt = 1 from by have q_7 : (0 : Int32).toInt = (0 : Int) := (iL (0) (0) rfl); omega)
      · have q_8 : (1 : Int32).toInt = (1 : Int) := (iL (1) (1) rfl)
        exact zH_some (show (1 : Int32).toInt = 0 ∨ (1 : Int32).toInt = 1 from by have q_9 : (1 : Int32).toInt = (1 : Int) := (iL (1) (1) rfl); omega)
    · have q_10 : (0 : Int32).toInt = (0 : Int) := (iL (0) (0) rfl)
      exact zH_some (show (0 : Int32).toInt = 0 ∨ (0 : Int32).toInt = 1 from by have q_11 : (0 : Int32).toInt = (0 : Int) := (iL (0) (0) rfl); omega)
theorem tX12_logs_l24 {T : Int32} {C : gM}    : ∀ (n : Nat) (y1 : Int32) (y2 : Int32) (y3 : Int32) (y4 : Int32) (y5 : Int32) (μ : gM), K T C μ → 0 ≤ y4.toInt → y4.toInt ≤ 60 → y5.toInt ≤ 239 → max 0 (y5.toInt - 3) < (n : Int) → zH (fX12_logs_l24  n y1 y2 y3 y4 y5 μ) (fun ν => K T C ν) := by
  intro n
  induction n with
  | zero =>
    intro y1 y2 y3 y4 y5 μ  h g0 g1 g2 gm
    exact absurd gm (by omega)
  | succ n ih =>
    intro y1 y2 y3 y4 y5 μ  h g0 g1 g2 gm
    rw [fX12_logs_l24]
    refine zH_ltc (rfl : y5.toInt = _) (iL (4) (4) rfl) (fun c_1 => ?_) (fun c_1 => ?_)
    · refine zH_lt (fun μ_2 e_3 => ?_)
      have h_4 : K T C μ_2 := by rw [e_3]; exact K.uw h (by decide)
      refine zH_lt (fun μ_5 e_6 => ?_)
      have h_7 : K T C μ_5 := by rw [e_6]; exact K.uw h_4 (by decide)
      refine zH_lt (fun μ_8 e_9 => ?_)
      have h_10 : K T C μ_8 := by rw [e_9]; exact K.uw h_7 (by decide)
      refine zH_lt (fun μ_11 e_12 => ?_)
      have h_13 : K T C μ_11 := by rw [e_12]; exact K.uw h_10 (by decide)
      refine zH_lt (fun μ_14 e_15 => ?_)
      have h_16 : K T C μ_14 := by rw [e_15]; exact K.uw7 h_13 (show (0 : Int) ≤ (y4).toInt ∧ (y4).toInt ≤ 60 from by have q_17 : (y4).toInt = y4.toInt := (rfl : y4.toInt = _); omega)
      exact zH_some h_16
    · refine zH_ck (zIn (iS (iA (iL (245) (245) rfl) (rfl : y5.toInt = _) (by omega) (by omega)) (iL (4) (4) rfl) (by omega) (by omega)) (by omega) (by omega)) ?_
      refine zH_ck (zIn (iA (iL (245) (245) rfl) (rfl : y5.toInt = _) (by omega) (by omega)) (by omega) (by omega)) ?_
      refine zH_lt (fun μ_18 e_19 => ?_)
      have h_20 : K T C μ_18 := by rw [e_19]; exact K.uw h (by have q_21 := zCl (iA (iL (245) (245) rfl) (rfl : y5.toInt = _) (by omega) (by omega)) (by omega); omega)
      refine zH_lt (fun x_22 e_23 => ?_)
      have q_24 : x_22.toInt = (y5.toInt + (-1 : Int)) := (congrArg Int32.toInt e_23).trans (iA (rfl : y5.toInt = _) (iL (-1) (-1) rfl) (by omega) (by omega))
      exact ih y1 y2 y3 y4 x_22 μ_18 h_20 (by omega) (by omega) (by omega) (by omega)
theorem tX12_logs {T : Int32} {C : gM} {a1 : Int32} {a2 : Int32} {a3 : Int32} {μ : gM}  (h : K T C μ)  : zH (fX12_logs a1 a2 a3 μ) (fun ν => K T C ν) := by
  unfold fX12_logs
  have f_1 : 0 ≤ (μ 272 7).toInt ∧ (μ 272 7).toInt ≤ 60 := h.2.2.2.2.2.2.1.1
  have q_2 : ((μ 272 7) + (1 : Int32)).toInt = ((μ 272 7).toInt + (1 : Int)) := (iA (rfl : (μ 272 7).toInt = _) (iL (1) (1) rfl) (by omega) (by omega))
  have q_3 : (60 : Int32).toInt = (60 : Int) := (iL (60) (60) rfl)
  refine zH_bd (tX12_lesser) (fun x_4 p_5 => ?_)
  have q_6 : x_4.toInt = min ((μ 272 7) + (1 : Int32)).toInt (60 : Int32).toInt := p_5
  refine zH_lt (fun x_7 e_8 => ?_)
  have q_9 : x_7.toInt = (((4 : Int) * x_4.toInt) - (1 : Int)) := (congrArg Int32.toInt e_8).trans (iS (iM (iL (4) (4) rfl) (rfl : x_4.toInt = _) (by omega) (by omega)) (iL (1) (1) rfl) (by omega) (by omega))
  exact zH_mono (tX12_logs_l24 100000 a1 a2 a3 x_4 x_7 μ h (by omega) (by omega) (by omega) (by omega)) (fun r_11 p_10 => p_10)
theorem tX12_toHold {T : Int32} {C : gM} {a1 : Int32} {a2 : Int32} {μ : gM}  (h : K T C μ) (g0 : 0 ≤ a1.toInt) (g1 : a1.toInt ≤ 4) (g2 : 0 ≤ a2.toInt) (g3 : a2.toInt ≤ 5) : zH (fX12_toHold a1 a2 μ) (fun ν => K T C ν) := by
  unfold fX12_toHold
  refine zH_bd (tX12_of (by omega) (by omega) (by omega) (by omega)) (fun x_1 p_2 => ?_)
  have q_3 : x_1.toInt = 6 * a1.toInt + a2.toInt := p_2
  refine zH_ck (zIn (iA (iL (40) (40) rfl) (rfl : x_1.toInt = _) (by omega) (by omega)) (by omega) (by omega)) ?_
  refine zH_lt (fun μ_4 e_5 => ?_)
  have h_6 : K T C μ_4 := by rw [e_5]; exact K.uw h (by have q_7 := zCl (iA (iL (40) (40) rfl) (rfl : x_1.toInt = _) (by omega) (by omega)) (by omega); omega)
  refine zH_bd (tX12_of (by omega) (by omega) (by omega) (by omega)) (fun x_8 p_9 => ?_)
  have q_10 : x_8.toInt = 6 * a1.toInt + a2.toInt := p_9
  refine zH_ck (zIn (iA (iL (70) (70) rfl) (rfl : x_8.toInt = _) (by omega) (by omega)) (by omega) (by omega)) ?_
  refine zH_lt (fun μ_11 e_12 => ?_)
  have h_13 : K T C μ_11 := by rw [e_12]; exact K.uz h_6 _
  refine zH_bd (tX12_of (by omega) (by omega) (by omega) (by omega)) (fun x_14 p_15 => ?_)
  have q_16 : x_14.toInt = 6 * a1.toInt + a2.toInt := p_15
  refine zH_ck (zIn (iA (iL (100) (100) rfl) (rfl : x_14.toInt = _) (by omega) (by omega)) (by omega) (by omega)) ?_
  refine zH_lt (fun μ_17 e_18 => ?_)
  have h_19 : K T C μ_17 := by rw [e_18]; exact K.uz h_13 _
  refine zH_lt (fun x_20 e_21 => ?_)
  have q_22 : x_20.toInt = ((140 : Int) + a1.toInt) := (congrArg Int32.toInt e_21).trans (iA (iL (140) (140) rfl) (rfl : a1.toInt = _) (by omega) (by omega))
  refine zH_ck (zIn (rfl : x_20.toInt = _) (by omega) (by omega)) ?_
  refine zH_ck (zIn (rfl : x_20.toInt = _) (by omega) (by omega)) ?_
  refine zH_lt (fun μ_23 e_24 => ?_)
  have h_25 : K T C μ_23 := by rw [e_24]; exact K.uw h_19 (by have q_26 := zCl (rfl : x_20.toInt = _) (by omega); omega)
  refine zH_lt (fun μ_27 e_28 => ?_)
  have h_29 : K T C μ_27 := by rw [e_28]; exact K.u267 h_25 (by decide) (fun e => absurd e (by decide)) (fun e => absurd e (by decide))
  have q_30 : (0 : Int32).toInt = (0 : Int) := (iL (0) (0) rfl)
  refine zH_bd (tX12_logs h_29) (fun μ_31 p_32 => ?_)
  have h_33 : K T C μ_31 := p_32
  exact zH_some h_33
theorem tX12_toWait {T : Int32} {C : gM} {a1 : Int32} {a2 : Int32} {μ : gM}  (h : K T C μ) (g0 : 0 ≤ a1.toInt) (g1 : a1.toInt ≤ 4) (g2 : 0 ≤ a2.toInt) (g3 : a2.toInt ≤ 5) : zH (fX12_toWait a1 a2 μ) (fun ν => K T C ν) := by
  unfold fX12_toWait
  refine zH_bd (tX12_of (by omega) (by omega) (by omega) (by omega)) (fun x_1 p_2 => ?_)
  have q_3 : x_1.toInt = 6 * a1.toInt + a2.toInt := p_2
  refine zH_ck (zIn (iA (iL (40) (40) rfl) (rfl : x_1.toInt = _) (by omega) (by omega)) (by omega) (by omega)) ?_
  refine zH_lt (fun μ_4 e_5 => ?_)
  have h_6 : K T C μ_4 := by rw [e_5]; exact K.uw h (by have q_7 := zCl (iA (iL (40) (40) rfl) (rfl : x_1.toInt = _) (by omega) (by omega)) (by omega); omega)
  refine zH_bd (tX12_of (by omega) (by omega) (by omega) (by omega)) (fun x_8 p_9 => ?_)
  have q_10 : x_8.toInt = 6 * a1.toInt + a2.toInt := p_9
  refine zH_bd (tX12_patienceOf h_6 (by omega) (by omega) (by omega) (by omega)) (fun x_11 p_12 => ?_)
  refine zH_ck (zIn (iA (iL (70) (70) rfl) (rfl : x_8.toInt = _) (by omega) (by omega)) (by omega) (by omega)) ?_
  refine zH_lt (fun μ_13 e_14 => ?_)
  have h_15 : K T C μ_13 := by rw [e_14]; exact K.uw h_6 (by have q_16 := zCl (iA (iL (70) (70) rfl) (rfl : x_8.toInt = _) (by omega) (by omega)) (by omega); omega)
  refine zH_bd (tX12_of (by omega) (by omega) (by omega) (by omega)) (fun x_17 p_18 => ?_)
  have q_19 : x_17.toInt = 6 * a1.toInt + a2.toInt := p_18
  refine zH_ck (zIn (iA (iL (100) (100) rfl) (rfl : x_17.toInt = _) (by omega) (by omega)) (by omega) (by omega)) ?_
  refine zH_lt (fun μ_20 e_21 => ?_)
  have h_22 : K T C μ_20 := by rw [e_21]; exact K.uz h_15 _
  exact zH_some h_22
theorem tX12_starts_l88 {T : Int32} {C : gM} {k78 : Int32 → gM → Option gM} {Q : gM → Prop}  : ∀ (n : Nat) (y1 : Int32) (y2 : Int32) (μ : gM), (∀ (b1 : Int32) (ν : gM), K T C ν → b1.toInt = y1.toInt + 1 → zH (k78 b1 ν) Q) → K T C μ → 0 ≤ y1.toInt → y1.toInt ≤ 4 → 0 ≤ y2.toInt → y2.toInt ≤ 6 → 6 - y2.toInt < (n : Int) → zH (fX12_starts_l88 k78 n y1 y2 μ) Q := by
  intro n
  induction n with
  | zero =>
    intro y1 y2 μ hk0 h g0 g1 g2 g3 gm
    exact absurd gm (by omega)
  | succ n ih =>
    intro y1 y2 μ hk0 h g0 g1 g2 g3 gm
    rw [fX12_starts_l88]
    refine zH_bd (tX12_gates h) (fun x_1 p_2 => ?_)
    have q_3 : 0 ≤ x_1.toInt ∧ x_1.toInt ≤ 6 := p_2
    refine zH_lec (rfl : x_1.toInt = _) (rfl : y2.toInt = _) (fun c_4 => ?_) (fun c_4 => ?_)
    · refine zH_lt (fun x_5 e_6 => ?_)
      have q_7 : x_5.toInt = (y1.toInt + (1 : Int)) := (congrArg Int32.toInt e_6).trans (iA (rfl : y1.toInt = _) (iL (1) (1) rfl) (by omega) (by omega))
      exact hk0 x_5 μ h (by omega)
    · refine zH_bd (tX12_isMember h) (fun x_8 p_9 => ?_)
      have q_10 : (x_8.toInt = 0 ∨ x_8.toInt = 1) ∧ (x_8.toInt = 1 → 0 ≤ y1.toInt ∧ y1.toInt ≤ 4 ∧ 0 ≤ y2.toInt ∧ y2.toInt ≤ 5) := p_9
      refine zH_eqc (rfl : x_8.toInt = _) (iL (0) (0) rfl) (fun c_11e c_11 => ?_) (fun c_11e c_11 => ?_)
      · refine zH_lt (fun x_12 e_13 => ?_)
        have q_14 : x_12.toInt = (y2.toInt + (1 : Int)) := (congrArg Int32.toInt e_13).trans (iA (rfl : y2.toInt = _) (iL (1) (1) rfl) (by omega) (by omega))
        exact ih y1 x_12 μ (fun b_15 μ_16 h_17 c_18 => hk0 b_15 μ_16 h_17 (by omega)) h (by omega) (by omega) (by omega) (by omega) (by omega)
      · refine zH_bd (tX12_wordOf h (by omega) (by omega) (by omega) (by omega)) (fun x_19 p_20 => ?_)
        refine zH_eqc (rfl : x_19.toInt = _) (iL (255) (255) rfl) (fun c_21e c_21 => ?_) (fun c_21e c_21 => ?_)
        · refine zH_bd (tX12_toHold h (by omega) (by omega) (by omega) (by omega)) (fun μ_22 p_23 => ?_)
          have h_24 : K T C μ_22 := p_23
          refine zH_lt (fun x_25 e_26 => ?_)
          have q_27 : x_25.toInt = (y2.toInt + (1 : Int)) := (congrArg Int32.toInt e_26).trans (iA (rfl : y2.toInt = _) (iL (1) (1) rfl) (by omega) (by omega))
          exact ih y1 x_25 μ_22 (fun b_28 μ_29 h_30 c_31 => hk0 b_28 μ_29 h_30 (by omega)) h_24 (by omega) (by omega) (by omega) (by omega) (by omega)
        · refine zH_bd (tX12_toWait h (by omega) (by omega) (by omega) (by omega)) (fun μ_32 p_33 => ?_)
          have h_34 : K T C μ_32 := p_33
          refine zH_lt (fun x_35 e_36 => ?_)
          have q_37 : x_35.toInt = (y2.toInt + (1 : Int)) := (congrArg Int32.toInt e_36).trans (iA (rfl : y2.toInt = _) (iL (1) (1) rfl) (by omega) (by omega))
          exact ih y1 x_35 μ_32 (fun b_38 μ_39 h_40 c_41 => hk0 b_38 μ_39 h_40 (by omega)) h_34 (by omega) (by omega) (by omega) (by omega) (by omega)
theorem tX12_starts_l78 {T : Int32} {C : gM}    : ∀ (n : Nat) (y1 : Int32) (μ : gM), K T C μ → 0 ≤ y1.toInt → y1.toInt ≤ 5 → 5 - y1.toInt < (n : Int) → zH (fX12_starts_l78  n y1 μ) (fun ν => K T C ν) := by
  intro n
  induction n with
  | zero =>
    intro y1 μ  h g0 g1 gm
    exact absurd gm (by omega)
  | succ n ih =>
    intro y1 μ  h g0 g1 gm
    rw [fX12_starts_l78]
    refine zH_bd (tX12_groups h) (fun x_1 p_2 => ?_)
    have q_3 : 0 ≤ x_1.toInt ∧ x_1.toInt ≤ 5 ∧ x_1.toInt = (μ 269 2).toInt := p_2
    have f_4 : 0 ≤ (μ 269 2).toInt ∧ (μ 269 2).toInt ≤ 5 := h.2.2.2.1.2.2.1
    refine zH_lec (rfl : x_1.toInt = _) (rfl : y1.toInt = _) (fun c_5 => ?_) (fun c_5 => ?_)
    · exact zH_some h
    · have q_6 : (0 : Int32).toInt = (0 : Int) := (iL (0) (0) rfl)
      exact tX12_starts_l88 100000 y1 (0 : Int32) μ (fun b_7 μ_8 h_9 c_10 => ih b_7 μ_8 h_9 (by omega) (by omega) (by omega)) h (by omega) (by omega) (by omega) (by omega) (by omega)
theorem tX12_starts_l32 {T : Int32} {C : gM}    : ∀ (n : Nat) (y1 : Int32) (μ : gM), K T C μ → 0 ≤ y1.toInt → y1.toInt ≤ 30 → 30 - y1.toInt < (n : Int) → zH (fX12_starts_l32  n y1 μ) (fun ν => K T C ν) := by
  intro n
  induction n with
  | zero =>
    intro y1 μ  h g0 g1 gm
    exact absurd gm (by omega)
  | succ n ih =>
    intro y1 μ  h g0 g1 gm
    rw [fX12_starts_l32]
    refine zH_lec (iL (30) (30) rfl) (rfl : y1.toInt = _) (fun c_1 => ?_) (fun c_1 => ?_)
    · refine zH_bd (tX12_gates h) (fun x_2 p_3 => ?_)
      have q_4 : 0 ≤ x_2.toInt ∧ x_2.toInt ≤ 6 := p_3
      refine zH_lt (fun μ_5 e_6 => ?_)
      have h_7 : K T C μ_5 := by rw [e_6]; exact K.uw h (by decide)
      have q_8 : (0 : Int32).toInt = (0 : Int) := (iL (0) (0) rfl)
      exact zH_mono (tX12_starts_l78 100000 (0 : Int32) μ_5 h_7 (by omega) (by omega) (by omega)) (fun r_10 p_9 => p_9)
    · refine zH_ck (zIn (iA (iL (53) (53) rfl) (rfl : y1.toInt = _) (by omega) (by omega)) (by omega) (by omega)) ?_
      refine zH_ck (zIn (iA (iL (10) (10) rfl) (rfl : y1.toInt = _) (by omega) (by omega)) (by omega) (by omega)) ?_
      refine zH_lt (fun μ_11 e_12 => ?_)
      have h_13 : K T C μ_11 := by rw [e_12]; exact K.uw h (by have q_14 := zCl (iA (iL (10) (10) rfl) (rfl : y1.toInt = _) (by omega) (by omega)) (by omega); omega)
      refine zH_lt (fun x_15 e_16 => ?_)
      have q_17 : x_15.toInt = (y1.toInt + (1 : Int)) := (congrArg Int32.toInt e_16).trans (iA (rfl : y1.toInt = _) (iL (1) (1) rfl) (by omega) (by omega))
      exact ih x_15 μ_11 h_13 (by omega) (by omega) (by omega)
theorem tX12_starts_l2 {T : Int32} {C : gM}    : ∀ (n : Nat) (y1 : Int32) (μ : gM), K T C μ → 0 ≤ y1.toInt → y1.toInt ≤ 490 → 490 - y1.toInt < (n : Int) → zH (fX12_starts_l2  n y1 μ) (fun ν => K T C ν) := by
  intro n
  induction n with
  | zero =>
    intro y1 μ  h g0 g1 gm
    exact absurd gm (by omega)
  | succ n ih =>
    intro y1 μ  h g0 g1 gm
    rw [fX12_starts_l2]
    refine zH_lec (iL (490) (490) rfl) (rfl : y1.toInt = _) (fun c_1 => ?_) (fun c_1 => ?_)
    · refine zH_lt (fun μ_2 e_3 => ?_)
      have h_4 : K T C μ_2 := by rw [e_3]; exact K.uw h (by decide)
      have q_5 : (0 : Int32).toInt = (0 : Int) := (iL (0) (0) rfl)
      exact zH_mono (tX12_starts_l32 100000 (0 : Int32) μ_2 h_4 (by omega) (by omega) (by omega)) (fun r_7 p_6 => p_6)
    · refine zH_ck (zIn (rfl : y1.toInt = _) (by omega) (by omega)) ?_
      refine zH_lt (fun μ_8 e_9 => ?_)
      have h_10 : K T C μ_8 := by rw [e_9]; exact K.uz h _
      refine zH_lt (fun x_11 e_12 => ?_)
      have q_13 : x_11.toInt = (y1.toInt + (1 : Int)) := (congrArg Int32.toInt e_12).trans (iA (rfl : y1.toInt = _) (iL (1) (1) rfl) (by omega) (by omega))
      exact ih x_11 μ_8 h_10 (by omega) (by omega) (by omega)
theorem tX12_starts {T : Int32} {C : gM} {μ : gM}  (h : K T C μ)  : zH (fX12_starts μ) (fun ν => K T C ν) := by
  unfold fX12_starts
  have q_1 : (0 : Int32).toInt = (0 : Int) := (iL (0) (0) rfl)
  exact zH_mono (tX12_starts_l2 100000 (0 : Int32) μ h (by omega) (by omega) (by omega)) (fun r_3 p_2 => p_2)
theorem tX12_comesUp_l14 {T : Int32} {C : gM}    : ∀ (n : Nat) (y1 : Int32) (y2 : Int32) (μ : gM), K T C μ → 0 ≤ y2.toInt → y2.toInt ≤ 5 → 5 - y2.toInt < (n : Int) → zH (fX12_comesUp_l14  n y1 y2 μ) (fun ν => K T C ν) := by
  intro n
  induction n with
  | zero =>
    intro y1 y2 μ  h g0 g1 gm
    exact absurd gm (by omega)
  | succ n ih =>
    intro y1 y2 μ  h g0 g1 gm
    rw [fX12_comesUp_l14]
    refine zH_bd (tX12_groups h) (fun x_1 p_2 => ?_)
    have q_3 : 0 ≤ x_1.toInt ∧ x_1.toInt ≤ 5 ∧ x_1.toInt = (μ 269 2).toInt := p_2
    have f_4 : 0 ≤ (μ 269 2).toInt ∧ (μ 269 2).toInt ≤ 5 := h.2.2.2.1.2.2.1
    refine zH_lec (rfl : x_1.toInt = _) (rfl : y2.toInt = _) (fun c_5 => ?_) (fun c_5 => ?_)
    · exact zH_some h
    · refine zH_bd (tX12_isMember h) (fun x_6 p_7 => ?_)
      have q_8 : (x_6.toInt = 0 ∨ x_6.toInt = 1) ∧ (x_6.toInt = 1 → 0 ≤ y2.toInt ∧ y2.toInt ≤ 4 ∧ 0 ≤ y1.toInt ∧ y1.toInt ≤ 5) := p_7
      refine zH_eqc (rfl : x_6.toInt = _) (iL (0) (0) rfl) (fun c_9e c_9 => ?_) (fun c_9e c_9 => ?_)
      · refine zH_lt (fun x_10 e_11 => ?_)
        have q_12 : x_10.toInt = (y2.toInt + (1 : Int)) := (congrArg Int32.toInt e_11).trans (iA (rfl : y2.toInt = _) (iL (1) (1) rfl) (by omega) (by omega))
        exact ih y1 x_10 μ h (by omega) (by omega) (by omega)
      · refine zH_bd (tX12_wordOf h (by omega) (by omega) (by omega) (by omega)) (fun x_13 p_14 => ?_)
        refine zH_eqc (rfl : x_13.toInt = _) (iL (255) (255) rfl) (fun c_15e c_15 => ?_) (fun c_15e c_15 => ?_)
        · refine zH_bd (tX12_toHold h (by omega) (by omega) (by omega) (by omega)) (fun μ_16 p_17 => ?_)
          have h_18 : K T C μ_16 := p_17
          refine zH_lt (fun x_19 e_20 => ?_)
          have q_21 : x_19.toInt = (y2.toInt + (1 : Int)) := (congrArg Int32.toInt e_20).trans (iA (rfl : y2.toInt = _) (iL (1) (1) rfl) (by omega) (by omega))
          exact ih y1 x_19 μ_16 h_18 (by omega) (by omega) (by omega)
        · refine zH_bd (tX12_toWait h (by omega) (by omega) (by omega) (by omega)) (fun μ_22 p_23 => ?_)
          have h_24 : K T C μ_22 := p_23
          refine zH_lt (fun x_25 e_26 => ?_)
          have q_27 : x_25.toInt = (y2.toInt + (1 : Int)) := (congrArg Int32.toInt e_26).trans (iA (rfl : y2.toInt = _) (iL (1) (1) rfl) (by omega) (by omega))
          exact ih y1 x_25 μ_22 h_24 (by omega) (by omega) (by omega)
theorem tX12_comesUp {T : Int32} {C : gM} {a1 : Int32} {μ : gM}  (h : K T C μ)  : zH (fX12_comesUp a1 μ) (fun ν => K T C ν) := by
  unfold fX12_comesUp
  refine zH_lt (fun μ_1 e_2 => ?_)
  have h_3 : K T C μ_1 := by rw [e_2]; exact K.uw h (by decide)
  have q_4 : (0 : Int32).toInt = (0 : Int) := (iL (0) (0) rfl)
  exact zH_mono (tX12_comesUp_l14 100000 a1 (0 : Int32) μ_1 h_3 (by omega) (by omega) (by omega)) (fun r_6 p_5 => p_5)
theorem tX12_farewell_l12 {T : Int32} {C : gM}    : ∀ (n : Nat) (y1 : Int32) (y2 : Int32) (y3 : Int32) (μ : gM), K T C μ → 0 ≤ y1.toInt → y1.toInt ≤ 4 → 0 ≤ y3.toInt → y3.toInt ≤ 6 → 6 - y3.toInt < (n : Int) → zH (fX12_farewell_l12  n y1 y2 y3 μ) (fun ν => K T C ν) := by
  intro n
  induction n with
  | zero =>
    intro y1 y2 y3 μ  h g0 g1 g2 g3 gm
    exact absurd gm (by omega)
  | succ n ih =>
    intro y1 y2 y3 μ  h g0 g1 g2 g3 gm
    rw [fX12_farewell_l12]
    refine zH_bd (tX12_gates h) (fun x_1 p_2 => ?_)
    have q_3 : 0 ≤ x_1.toInt ∧ x_1.toInt ≤ 6 := p_2
    refine zH_lec (rfl : x_1.toInt = _) (rfl : y3.toInt = _) (fun c_4 => ?_) (fun c_4 => ?_)
    · exact zH_some h
    · refine zH_bd (tX12_of (by omega) (by omega) (by omega) (by omega)) (fun x_5 p_6 => ?_)
      have q_7 : x_5.toInt = 6 * y1.toInt + y3.toInt := p_6
      refine zH_ck (zIn (iA (iL (40) (40) rfl) (rfl : x_5.toInt = _) (by omega) (by omega)) (by omega) (by omega)) ?_
      refine zH_eqc (rfl : (μ 272 (((40 : Int32) + x_5)).toNatClampNeg).toInt = _) (iL (1) (1) rfl) (fun c_8e c_8 => ?_) (fun c_8e c_8 => ?_)
      · refine zH_bd (tX12_areTogether) (fun x_9 p_10 => ?_)
        have q_11 : x_9.toInt = 0 ∨ x_9.toInt = 1 := p_10
        refine zH_eqc (rfl : x_9.toInt = _) (iL (0) (0) rfl) (fun c_12e c_12 => ?_) (fun c_12e c_12 => ?_)
        · refine zH_lt (fun x_13 e_14 => ?_)
          have q_15 : x_13.toInt = (y3.toInt + (1 : Int)) := (congrArg Int32.toInt e_14).trans (iA (rfl : y3.toInt = _) (iL (1) (1) rfl) (by omega) (by omega))
          exact ih y1 y2 x_13 μ h (by omega) (by omega) (by omega) (by omega) (by omega)
        · refine zH_ck (zIn (iA (iL (70) (70) rfl) (rfl : x_5.toInt = _) (by omega) (by omega)) (by omega) (by omega)) ?_
          refine zH_bd (tX12_skewOf h (by omega) (by omega) (by omega) (by omega)) (fun x_16 p_17 => ?_)
          have q_18 : (1 : Int32).toInt = (1 : Int) := (iL (1) (1) rfl)
          refine zH_bd (tX12_greater) (fun x_19 p_20 => ?_)
          have q_21 : x_19.toInt = max (1 : Int32).toInt x_16.toInt := p_20
          refine zH_bd (tX12_lesser) (fun x_22 p_23 => ?_)
          have q_24 : x_22.toInt = min (μ 272 (((70 : Int32) + x_5)).toNatClampNeg).toInt x_19.toInt := p_23
          refine zH_ck (zIn (iA (iL (70) (70) rfl) (rfl : x_5.toInt = _) (by omega) (by omega)) (by omega) (by omega)) ?_
          refine zH_lt (fun μ_25 e_26 => ?_)
          have h_27 : K T C μ_25 := by rw [e_26]; exact K.uw h (by have q_28 := zCl (iA (iL (70) (70) rfl) (rfl : x_5.toInt = _) (by omega) (by omega)) (by omega); omega)
          refine zH_lt (fun x_29 e_30 => ?_)
          have q_31 : x_29.toInt = (y3.toInt + (1 : Int)) := (congrArg Int32.toInt e_30).trans (iA (rfl : y3.toInt = _) (iL (1) (1) rfl) (by omega) (by omega))
          exact ih y1 y2 x_29 μ_25 h_27 (by omega) (by omega) (by omega) (by omega) (by omega)
      · refine zH_lt (fun x_32 e_33 => ?_)
        have q_34 : x_32.toInt = (y3.toInt + (1 : Int)) := (congrArg Int32.toInt e_33).trans (iA (rfl : y3.toInt = _) (iL (1) (1) rfl) (by omega) (by omega))
        exact ih y1 y2 x_32 μ h (by omega) (by omega) (by omega) (by omega) (by omega)
theorem tX12_farewell {T : Int32} {C : gM} {a1 : Int32} {a2 : Int32} {μ : gM}  (h : K T C μ) (g0 : 0 ≤ a1.toInt) (g1 : a1.toInt ≤ 4) : zH (fX12_farewell a1 a2 μ) (fun ν => K T C ν) := by
  unfold fX12_farewell
  refine zH_lt (fun μ_1 e_2 => ?_)
  have h_3 : K T C μ_1 := by rw [e_2]; exact K.uw h (by decide)
  have q_4 : (0 : Int32).toInt = (0 : Int) := (iL (0) (0) rfl)
  exact zH_mono (tX12_farewell_l12 100000 a1 a2 (0 : Int32) μ_1 h_3 (by omega) (by omega) (by omega) (by omega) (by omega)) (fun r_6 p_5 => p_5)
theorem tX12_goesDown_l19 {T : Int32} {C : gM}    : ∀ (n : Nat) (y1 : Int32) (y2 : Int32) (y3 : Int32) (y4 : Int32) (μ : gM), K T C μ → 0 ≤ y1.toInt → y1.toInt ≤ 5 → 0 ≤ y4.toInt → y4.toInt ≤ 5 → 5 - y4.toInt < (n : Int) → zH (fX12_goesDown_l19  n y1 y2 y3 y4 μ) (fun r => K T C r.2) := by
  intro n
  induction n with
  | zero =>
    intro y1 y2 y3 y4 μ  h g0 g1 g2 g3 gm
    exact absurd gm (by omega)
  | succ n ih =>
    intro y1 y2 y3 y4 μ  h g0 g1 g2 g3 gm
    rw [fX12_goesDown_l19]
    refine zH_bd (tX12_groups h) (fun x_1 p_2 => ?_)
    have q_3 : 0 ≤ x_1.toInt ∧ x_1.toInt ≤ 5 ∧ x_1.toInt = (μ 269 2).toInt := p_2
    have f_4 : 0 ≤ (μ 269 2).toInt ∧ (μ 269 2).toInt ≤ 5 := h.2.2.2.1.2.2.1
    refine zH_lec (rfl : x_1.toInt = _) (rfl : y4.toInt = _) (fun c_5 => ?_) (fun c_5 => ?_)
    · exact zH_some h
    · refine zH_bd (tX12_of (by omega) (by omega) (by omega) (by omega)) (fun x_6 p_7 => ?_)
      have q_8 : x_6.toInt = 6 * y4.toInt + y1.toInt := p_7
      refine zH_bd (tX12_doesHold (by omega) (by omega) (by omega) (by omega)) (fun x_9 p_10 => ?_)
      have q_11 : x_9.toInt = 0 ∨ x_9.toInt = 1 := p_10
      refine zH_ck (zIn (iA (iL (40) (40) rfl) (rfl : x_6.toInt = _) (by omega) (by omega)) (by omega) (by omega)) ?_
      refine zH_lt (fun μ_12 e_13 => ?_)
      have h_14 : K T C μ_12 := by rw [e_13]; exact K.uz h _
      refine zH_ck (zIn (iA (iL (70) (70) rfl) (rfl : x_6.toInt = _) (by omega) (by omega)) (by omega) (by omega)) ?_
      refine zH_lt (fun μ_15 e_16 => ?_)
      have h_17 : K T C μ_15 := by rw [e_16]; exact K.uz h_14 _
      refine zH_ck (zIn (iA (iL (100) (100) rfl) (rfl : x_6.toInt = _) (by omega) (by omega)) (by omega) (by omega)) ?_
      refine zH_lt (fun μ_18 e_19 => ?_)
      have h_20 : K T C μ_18 := by rw [e_19]; exact K.uz h_17 _
      refine zH_eqc (rfl : x_9.toInt = _) (iL (0) (0) rfl) (fun c_21e c_21 => ?_) (fun c_21e c_21 => ?_)
      · refine zH_lt (fun x_22 e_23 => ?_)
        have q_24 : x_22.toInt = (y4.toInt + (1 : Int)) := (congrArg Int32.toInt e_23).trans (iA (rfl : y4.toInt = _) (iL (1) (1) rfl) (by omega) (by omega))
        exact ih y1 y2 y3 x_22 μ_18 h_20 (by omega) (by omega) (by omega) (by omega) (by omega)
      · refine zH_lt (fun x_25 e_26 => ?_)
        have q_27 : (2 : Int32).toInt = (2 : Int) := (iL (2) (2) rfl)
        refine zH_bd (tX12_logs h_20) (fun μ_28 p_29 => ?_)
        have h_30 : K T C μ_28 := p_29
        refine zH_eqc (rfl : y2.toInt = _) (iL (0) (0) rfl) (fun c_31e c_31 => ?_) (fun c_31e c_31 => ?_)
        · refine zH_lt (fun x_32 e_33 => ?_)
          have q_34 : x_32.toInt = (y4.toInt + (1 : Int)) := (congrArg Int32.toInt e_33).trans (iA (rfl : y4.toInt = _) (iL (1) (1) rfl) (by omega) (by omega))
          exact ih y1 y2 x_25 x_32 μ_28 h_30 (by omega) (by omega) (by omega) (by omega) (by omega)
        · refine zH_bd (tX12_farewell h_30 (by omega) (by omega)) (fun μ_35 p_36 => ?_)
          have h_37 : K T C μ_35 := p_36
          refine zH_lt (fun x_38 e_39 => ?_)
          have q_40 : x_38.toInt = (y4.toInt + (1 : Int)) := (congrArg Int32.toInt e_39).trans (iA (rfl : y4.toInt = _) (iL (1) (1) rfl) (by omega) (by omega))
          exact ih y1 y2 x_25 x_38 μ_35 h_37 (by omega) (by omega) (by omega) (by omega) (by omega)
theorem tX12_goesDown {T : Int32} {C : gM} {a1 : Int32} {a2 : Int32} {μ : gM}  (h : K T C μ) (g0 : 0 ≤ a1.toInt) (g1 : a1.toInt ≤ 5) : zH (fX12_goesDown a1 a2 μ) (fun r => K T C r.2) := by
  unfold fX12_goesDown
  refine zH_lt (fun μ_1 e_2 => ?_)
  have h_3 : K T C μ_1 := by rw [e_2]; exact K.uw h (by decide)
  have q_4 : (0 : Int32).toInt = (0 : Int) := (iL (0) (0) rfl)
  exact zH_mono (tX12_goesDown_l19 100000 a1 a2 (0 : Int32) (0 : Int32) μ_1 h_3 (by omega) (by omega) (by omega) (by omega) (by omega)) (fun r_6 p_5 => p_5)
theorem tX12_isLost {T : Int32} {C : gM} {μ : gM}  (h : K T C μ)  : zH (fX12_isLost μ) (fun r => K T C r.2 ∧ (r.1.toInt = 0 ∨ r.1.toInt = 1)) := by
  unfold fX12_isLost
  refine zH_eqc (rfl : (μ 272 4).toInt = _) (iL (0) (0) rfl) (fun c_1e c_1 => ?_) (fun c_1e c_1 => ?_)
  · have q_2 : (0 : Int32).toInt = (0 : Int) := (iL (0) (0) rfl)
    exact zH_some ⟨h, show (0 : Int32).toInt = 0 ∨ (0 : Int32).toInt = 1 from by have q_3 : ((0 : Int32)).toInt = (0 : Int) := (iL (0) (0) rfl); omega⟩
  · refine zH_lt (fun x_4 e_5 => ?_)
    refine zH_lt (fun μ_6 e_7 => ?_)
    have h_8 : K T C μ_6 := by rw [e_7]; exact K.uw h (by decide)
    refine zH_lec (iL (0) (0) rfl) (rfl : (lg_cmp ((x_4 / (64 : Int64)) - (x_4 / (64 : Int64)) / (100 : Int64) * (100 : Int64)) ((μ_6 272 4)).toInt64).toInt = _) (fun c_9 => ?_) (fun c_9 => ?_)
    · unfold fX12_isLost_n66
      have q_10 : (0 : Int32).toInt = (0 : Int) := (iL (0) (0) rfl)
      refine zH_bd (tX12_flag) (fun x_11 p_12 => ?_)
      have q_13 : x_11.toInt = 0 ∨ x_11.toInt = 1 := p_12
      refine zH_lt (fun μ_14 e_15 => ?_)
      have h_16 : K T C μ_14 := by rw [e_15]; exact K.uw h_8 (by decide)
      refine zH_ck (zBo (show ((0 : Int32)).toInt = 0 ∨ ((0 : Int32)).toInt = 1 from by have q_17 : ((0 : Int32)).toInt = (0 : Int) := (iL (0) (0) rfl); omega)) ?_
      exact zH_some ⟨h_16, show (0 : Int32).toInt = 0 ∨ (0 : Int32).toInt = 1 from by have q_18 : ((0 : Int32)).toInt = (0 : Int) := (iL (0) (0) rfl); omega⟩
    · unfold fX12_isLost_n66
      have q_19 : (1 : Int32).toInt = (1 : Int) := (iL (1) (1) rfl)
      refine zH_bd (tX12_flag) (fun x_20 p_21 => ?_)
      have q_22 : x_20.toInt = 0 ∨ x_20.toInt = 1 := p_21
      refine zH_lt (fun μ_23 e_24 => ?_)
      have h_25 : K T C μ_23 := by rw [e_24]; exact K.uw h_8 (by decide)
      refine zH_ck (zBo (show ((1 : Int32)).toInt = 0 ∨ ((1 : Int32)).toInt = 1 from by have q_26 : ((1 : Int32)).toInt = (1 : Int) := (iL (1) (1) rfl); omega)) ?_
      exact zH_some ⟨h_25, show (1 : Int32).toInt = 0 ∨ (1 : Int32).toInt = 1 from by have q_27 : ((1 : Int32)).toInt = (1 : Int) := (iL (1) (1) rfl); omega⟩
theorem tX12_sends {T : Int32} {C : gM} {a1 : Int32} {a2 : Int32} {μ : gM}  (h : K T C μ) (g0 : 0 ≤ a1.toInt) (g1 : a1.toInt ≤ 4) (g2 : 0 ≤ a2.toInt) (g3 : a2.toInt ≤ 5) : zH (fX12_sends a1 a2 μ) (fun ν => K T C ν) := by
  unfold fX12_sends
  refine zH_bd (tX12_of (by omega) (by omega) (by omega) (by omega)) (fun x_1 p_2 => ?_)
  have q_3 : x_1.toInt = 6 * a1.toInt + a2.toInt := p_2
  refine zH_ck (zIn (rfl : a2.toInt = _) (by omega) (by omega)) ?_
  refine zH_lt (fun μ_4 e_5 => ?_)
  have h_6 : K T C μ_4 := by rw [e_5]; exact K.uf h (by decide)
  refine zH_ck (zIn (iA (iL (40) (40) rfl) (rfl : x_1.toInt = _) (by omega) (by omega)) (by omega) (by omega)) ?_
  refine zH_eqc (rfl : (μ_4 272 (((40 : Int32) + x_1)).toNatClampNeg).toInt = _) (iL (1) (1) rfl) (fun c_7e c_7 => ?_) (fun c_7e c_7 => ?_)
  · refine zH_ck (zIn (iA (iL (70) (70) rfl) (rfl : x_1.toInt = _) (by omega) (by omega)) (by omega) (by omega)) ?_
    refine zH_ltc (iL (0) (0) rfl) (rfl : (μ_4 272 (((70 : Int32) + x_1)).toNatClampNeg).toInt = _) (fun c_8 => ?_) (fun c_8 => ?_)
    · unfold fX12_sends_n44
      refine zH_bd (tX12_doesHold (by omega) (by omega) (by omega) (by omega)) (fun x_9 p_10 => ?_)
      have q_11 : x_9.toInt = 0 ∨ x_9.toInt = 1 := p_10
      refine zH_eqc (rfl : x_9.toInt = _) (iL (0) (0) rfl) (fun c_12e c_12 => ?_) (fun c_12e c_12 => ?_)
      · exact zH_some h_6
      · refine zH_ck (zIn (iA (iL (70) (70) rfl) (rfl : x_1.toInt = _) (by omega) (by omega)) (by omega) (by omega)) ?_
        refine zH_eqc (rfl : (μ_4 272 (((70 : Int32) + x_1)).toNatClampNeg).toInt = _) (iL (0) (0) rfl) (fun c_13e c_13 => ?_) (fun c_13e c_13 => ?_)
        · refine zH_bd (tX12_wordOf h_6 (by omega) (by omega) (by omega) (by omega)) (fun x_14 p_15 => ?_)
          refine zH_ck (zIn (rfl : a2.toInt = _) (by omega) (by omega)) ?_
          refine zH_lt (fun μ_16 e_17 => ?_)
          have h_18 : K T C μ_16 := by rw [e_17]; exact K.uf h_6 (by decide)
          refine zH_lt (fun μ_19 e_20 => ?_)
          have h_21 : K T C μ_19 := by rw [e_20]; exact K.uw h_18 (by decide)
          refine zH_ck (zIn (iA (iL (28) (28) rfl) (rfl : a1.toInt = _) (by omega) (by omega)) (by omega) (by omega)) ?_
          refine zH_ck (zIn (iA (iL (70) (70) rfl) (rfl : x_1.toInt = _) (by omega) (by omega)) (by omega) (by omega)) ?_
          refine zH_lt (fun μ_22 e_23 => ?_)
          have h_24 : K T C μ_22 := by rw [e_23]; exact K.uw h_21 (by have q_25 := zCl (iA (iL (70) (70) rfl) (rfl : x_1.toInt = _) (by omega) (by omega)) (by omega); omega)
          exact zH_some h_24
        · exact zH_some h_6
    · refine zH_bd (tX12_toHold h_6 (by omega) (by omega) (by omega) (by omega)) (fun μ_26 p_27 => ?_)
      have h_28 : K T C μ_26 := p_27
      unfold fX12_sends_n44
      refine zH_bd (tX12_doesHold (by omega) (by omega) (by omega) (by omega)) (fun x_29 p_30 => ?_)
      have q_31 : x_29.toInt = 0 ∨ x_29.toInt = 1 := p_30
      refine zH_eqc (rfl : x_29.toInt = _) (iL (0) (0) rfl) (fun c_32e c_32 => ?_) (fun c_32e c_32 => ?_)
      · exact zH_some h_28
      · refine zH_ck (zIn (iA (iL (70) (70) rfl) (rfl : x_1.toInt = _) (by omega) (by omega)) (by omega) (by omega)) ?_
        refine zH_eqc (rfl : (μ_26 272 (((70 : Int32) + x_1)).toNatClampNeg).toInt = _) (iL (0) (0) rfl) (fun c_33e c_33 => ?_) (fun c_33e c_33 => ?_)
        · refine zH_bd (tX12_wordOf h_28 (by omega) (by omega) (by omega) (by omega)) (fun x_34 p_35 => ?_)
          refine zH_ck (zIn (rfl : a2.toInt = _) (by omega) (by omega)) ?_
          refine zH_lt (fun μ_36 e_37 => ?_)
          have h_38 : K T C μ_36 := by rw [e_37]; exact K.uf h_28 (by decide)
          refine zH_lt (fun μ_39 e_40 => ?_)
          have h_41 : K T C μ_39 := by rw [e_40]; exact K.uw h_38 (by decide)
          refine zH_ck (zIn (iA (iL (28) (28) rfl) (rfl : a1.toInt = _) (by omega) (by omega)) (by omega) (by omega)) ?_
          refine zH_ck (zIn (iA (iL (70) (70) rfl) (rfl : x_1.toInt = _) (by omega) (by omega)) (by omega) (by omega)) ?_
          refine zH_lt (fun μ_42 e_43 => ?_)
          have h_44 : K T C μ_42 := by rw [e_43]; exact K.uw h_41 (by have q_45 := zCl (iA (iL (70) (70) rfl) (rfl : x_1.toInt = _) (by omega) (by omega)) (by omega); omega)
          exact zH_some h_44
        · exact zH_some h_28
  · unfold fX12_sends_n44
    refine zH_bd (tX12_doesHold (by omega) (by omega) (by omega) (by omega)) (fun x_46 p_47 => ?_)
    have q_48 : x_46.toInt = 0 ∨ x_46.toInt = 1 := p_47
    refine zH_eqc (rfl : x_46.toInt = _) (iL (0) (0) rfl) (fun c_49e c_49 => ?_) (fun c_49e c_49 => ?_)
    · exact zH_some h_6
    · refine zH_ck (zIn (iA (iL (70) (70) rfl) (rfl : x_1.toInt = _) (by omega) (by omega)) (by omega) (by omega)) ?_
      refine zH_eqc (rfl : (μ_4 272 (((70 : Int32) + x_1)).toNatClampNeg).toInt = _) (iL (0) (0) rfl) (fun c_50e c_50 => ?_) (fun c_50e c_50 => ?_)
      · refine zH_bd (tX12_wordOf h_6 (by omega) (by omega) (by omega) (by omega)) (fun x_51 p_52 => ?_)
        refine zH_ck (zIn (rfl : a2.toInt = _) (by omega) (by omega)) ?_
        refine zH_lt (fun μ_53 e_54 => ?_)
        have h_55 : K T C μ_53 := by rw [e_54]; exact K.uf h_6 (by decide)
        refine zH_lt (fun μ_56 e_57 => ?_)
        have h_58 : K T C μ_56 := by rw [e_57]; exact K.uw h_55 (by decide)
        refine zH_ck (zIn (iA (iL (28) (28) rfl) (rfl : a1.toInt = _) (by omega) (by omega)) (by omega) (by omega)) ?_
        refine zH_ck (zIn (iA (iL (70) (70) rfl) (rfl : x_1.toInt = _) (by omega) (by omega)) (by omega) (by omega)) ?_
        refine zH_lt (fun μ_59 e_60 => ?_)
        have h_61 : K T C μ_59 := by rw [e_60]; exact K.uw h_58 (by have q_62 := zCl (iA (iL (70) (70) rfl) (rfl : x_1.toInt = _) (by omega) (by omega)) (by omega); omega)
        exact zH_some h_61
      · exact zH_some h_6
theorem tX12_reads {T : Int32} {C : gM} {a1 : Int32} {a2 : Int32} {a3 : Int32} {μ : gM}  (h : K T C μ) (g0 : 0 ≤ a1.toInt) (g1 : a1.toInt ≤ 4) (g2 : 0 ≤ a2.toInt) (g3 : a2.toInt ≤ 5) (g4 : 0 ≤ a3.toInt) (g5 : a3.toInt ≤ 5) : zH (fX12_reads a1 a2 a3 μ) (fun ν => K T C ν) := by
  unfold fX12_reads
  refine zH_bd (tX12_of (by omega) (by omega) (by omega) (by omega)) (fun x_1 p_2 => ?_)
  have q_3 : x_1.toInt = 6 * a1.toInt + a3.toInt := p_2
  refine zH_ck (zIn (rfl : a2.toInt = _) (by omega) (by omega)) ?_
  refine zH_bd (tX12_wordOf h (by omega) (by omega) (by omega) (by omega)) (fun x_4 p_5 => ?_)
  refine zH_bd (tX12_isStronger) (fun x_6 p_7 => ?_)
  have q_8 : x_6.toInt = 0 ∨ x_6.toInt = 1 := p_7
  refine zH_bd (tX12_doesHold (by omega) (by omega) (by omega) (by omega)) (fun x_9 p_10 => ?_)
  have q_11 : x_9.toInt = 0 ∨ x_9.toInt = 1 := p_10
  refine zH_eqc (rfl : x_9.toInt = _) (iL (0) (0) rfl) (fun c_12e c_12 => ?_) (fun c_12e c_12 => ?_)
  · refine zH_eqc (rfl : x_6.toInt = _) (iL (0) (0) rfl) (fun c_13e c_13 => ?_) (fun c_13e c_13 => ?_)
    · refine zH_ck (zIn (iA (iL (38) (38) rfl) (rfl : a1.toInt = _) (by omega) (by omega)) (by omega) (by omega)) ?_
      refine zH_eqc (rfl : (μ 269 (((38 : Int32) + a1)).toNatClampNeg).toInt = _) (iL (1) (1) rfl) (fun c_14e c_14 => ?_) (fun c_14e c_14 => ?_)
      · unfold fX12_reads_n83
        refine zH_ck (zIn (iA (iL (100) (100) rfl) (rfl : x_1.toInt = _) (by omega) (by omega)) (by omega) (by omega)) ?_
        refine zH_lt (fun μ_15 e_16 => ?_)
        have h_17 : K T C μ_15 := by rw [e_16]; exact K.uz h _
        refine zH_bd (tX12_patienceOf h_17 (by omega) (by omega) (by omega) (by omega)) (fun x_18 p_19 => ?_)
        refine zH_ck (zIn (iA (iL (70) (70) rfl) (rfl : x_1.toInt = _) (by omega) (by omega)) (by omega) (by omega)) ?_
        refine zH_lt (fun μ_20 e_21 => ?_)
        have h_22 : K T C μ_20 := by rw [e_21]; exact K.uw h_17 (by have q_23 := zCl (iA (iL (70) (70) rfl) (rfl : x_1.toInt = _) (by omega) (by omega)) (by omega); omega)
        exact zH_some h_22
      · refine zH_ck (zIn (iA (iL (100) (100) rfl) (rfl : x_1.toInt = _) (by omega) (by omega)) (by omega) (by omega)) ?_
        refine zH_eqc (rfl : (μ 272 (((100 : Int32) + x_1)).toNatClampNeg).toInt = _) (iL (0) (0) rfl) (fun c_24e c_24 => ?_) (fun c_24e c_24 => ?_)
        · refine zH_ck (zIn (iA (iL (100) (100) rfl) (rfl : x_1.toInt = _) (by omega) (by omega)) (by omega) (by omega)) ?_
          refine zH_lt (fun μ_25 e_26 => ?_)
          have h_27 : K T C μ_25 := by rw [e_26]; exact K.uw h (by have q_28 := zCl (iA (iL (100) (100) rfl) (rfl : x_1.toInt = _) (by omega) (by omega)) (by omega); omega)
          unfold fX12_reads_n142
          refine zH_ck (zIn (iA (iL (100) (100) rfl) (rfl : x_1.toInt = _) (by omega) (by omega)) (by omega) (by omega)) ?_
          refine zH_ck (zIn (iA (iL (33) (33) rfl) (rfl : a1.toInt = _) (by omega) (by omega)) (by omega) (by omega)) ?_
          refine zH_ltc (rfl : ((μ_25 272 0) - ((μ_25 272 (((100 : Int32) + x_1)).toNatClampNeg) - (1 : Int32))).toInt = _) (rfl : (μ_25 269 (((33 : Int32) + a1)).toNatClampNeg).toInt = _) (fun c_29 => ?_) (fun c_29 => ?_)
          · refine zH_bd (tX12_patienceOf h_27 (by omega) (by omega) (by omega) (by omega)) (fun x_30 p_31 => ?_)
            refine zH_ck (zIn (iA (iL (70) (70) rfl) (rfl : x_1.toInt = _) (by omega) (by omega)) (by omega) (by omega)) ?_
            refine zH_lt (fun μ_32 e_33 => ?_)
            have h_34 : K T C μ_32 := by rw [e_33]; exact K.uw h_27 (by have q_35 := zCl (iA (iL (70) (70) rfl) (rfl : x_1.toInt = _) (by omega) (by omega)) (by omega); omega)
            exact zH_some h_34
          · refine zH_bd (tX12_toHold h_27 (by omega) (by omega) (by omega) (by omega)) (fun μ_36 p_37 => ?_)
            have h_38 : K T C μ_36 := p_37
            exact zH_some h_38
        · unfold fX12_reads_n142
          refine zH_ck (zIn (iA (iL (100) (100) rfl) (rfl : x_1.toInt = _) (by omega) (by omega)) (by omega) (by omega)) ?_
          refine zH_ck (zIn (iA (iL (33) (33) rfl) (rfl : a1.toInt = _) (by omega) (by omega)) (by omega) (by omega)) ?_
          refine zH_ltc (rfl : ((μ 272 0) - ((μ 272 (((100 : Int32) + x_1)).toNatClampNeg) - (1 : Int32))).toInt = _) (rfl : (μ 269 (((33 : Int32) + a1)).toNatClampNeg).toInt = _) (fun c_39 => ?_) (fun c_39 => ?_)
          · refine zH_bd (tX12_patienceOf h (by omega) (by omega) (by omega) (by omega)) (fun x_40 p_41 => ?_)
            refine zH_ck (zIn (iA (iL (70) (70) rfl) (rfl : x_1.toInt = _) (by omega) (by omega)) (by omega) (by omega)) ?_
            refine zH_lt (fun μ_42 e_43 => ?_)
            have h_44 : K T C μ_42 := by rw [e_43]; exact K.uw h (by have q_45 := zCl (iA (iL (70) (70) rfl) (rfl : x_1.toInt = _) (by omega) (by omega)) (by omega); omega)
            exact zH_some h_44
          · refine zH_bd (tX12_toHold h (by omega) (by omega) (by omega) (by omega)) (fun μ_46 p_47 => ?_)
            have h_48 : K T C μ_46 := p_47
            exact zH_some h_48
    · unfold fX12_reads_n83
      refine zH_ck (zIn (iA (iL (100) (100) rfl) (rfl : x_1.toInt = _) (by omega) (by omega)) (by omega) (by omega)) ?_
      refine zH_lt (fun μ_49 e_50 => ?_)
      have h_51 : K T C μ_49 := by rw [e_50]; exact K.uz h _
      refine zH_bd (tX12_patienceOf h_51 (by omega) (by omega) (by omega) (by omega)) (fun x_52 p_53 => ?_)
      refine zH_ck (zIn (iA (iL (70) (70) rfl) (rfl : x_1.toInt = _) (by omega) (by omega)) (by omega) (by omega)) ?_
      refine zH_lt (fun μ_54 e_55 => ?_)
      have h_56 : K T C μ_54 := by rw [e_55]; exact K.uw h_51 (by have q_57 := zCl (iA (iL (70) (70) rfl) (rfl : x_1.toInt = _) (by omega) (by omega)) (by omega); omega)
      exact zH_some h_56
  · refine zH_eqc (rfl : x_6.toInt = _) (iL (0) (0) rfl) (fun c_58e c_58 => ?_) (fun c_58e c_58 => ?_)
    · exact zH_some h
    · refine zH_lt (fun μ_59 e_60 => ?_)
      have h_61 : K T C μ_59 := by rw [e_60]; exact K.u267 h (by decide) (fun e => absurd e (by decide)) (fun e => absurd e (by decide))
      refine zH_bd (tX12_toWait h_61 (by omega) (by omega) (by omega) (by omega)) (fun μ_62 p_63 => ?_)
      have h_64 : K T C μ_62 := p_63
      have q_65 : (1 : Int32).toInt = (1 : Int) := (iL (1) (1) rfl)
      refine zH_bd (tX12_logs h_64) (fun μ_66 p_67 => ?_)
      have h_68 : K T C μ_66 := p_67
      exact zH_some h_68
theorem tX12_groupGoes_l118 {T : Int32} {C : gM} {k96 : Int32 → Int32 → gM → Option gM} {Q : gM → Prop}  : ∀ (n : Nat) (y1 : Int32) (y2 : Int32) (y3 : Int32) (μ : gM), (∀ (b1 : Int32) (b2 : Int32) (ν : gM), K T C ν → b1.toInt = y1.toInt → b2.toInt = y2.toInt + 1 → zH (k96 b1 b2 ν) Q) → K T C μ → 0 ≤ y1.toInt → y1.toInt ≤ 4 → 0 ≤ y2.toInt → y2.toInt ≤ 5 → 0 ≤ y3.toInt → y3.toInt ≤ 6 → 6 - y3.toInt < (n : Int) → zH (fX12_groupGoes_l118 k96 n y1 y2 y3 μ) Q := by
  intro n
  induction n with
  | zero =>
    intro y1 y2 y3 μ hk0 h g0 g1 g2 g3 g4 g5 gm
    exact absurd gm (by omega)
  | succ n ih =>
    intro y1 y2 y3 μ hk0 h g0 g1 g2 g3 g4 g5 gm
    rw [fX12_groupGoes_l118]
    refine zH_bd (tX12_gates h) (fun x_1 p_2 => ?_)
    have q_3 : 0 ≤ x_1.toInt ∧ x_1.toInt ≤ 6 := p_2
    refine zH_lec (rfl : x_1.toInt = _) (rfl : y3.toInt = _) (fun c_4 => ?_) (fun c_4 => ?_)
    · refine zH_lt (fun x_5 e_6 => ?_)
      have q_7 : x_5.toInt = (y2.toInt + (1 : Int)) := (congrArg Int32.toInt e_6).trans (iA (rfl : y2.toInt = _) (iL (1) (1) rfl) (by omega) (by omega))
      exact hk0 y1 x_5 μ h (by omega) (by omega)
    · refine zH_eqc (rfl : y3.toInt = _) (rfl : y2.toInt = _) (fun c_8e c_8 => ?_) (fun c_8e c_8 => ?_)
      · refine zH_lt (fun x_9 e_10 => ?_)
        have q_11 : x_9.toInt = (y3.toInt + (1 : Int)) := (congrArg Int32.toInt e_10).trans (iA (rfl : y3.toInt = _) (iL (1) (1) rfl) (by omega) (by omega))
        exact ih y1 y2 x_9 μ (fun b_12 b_13 μ_14 h_15 c_16 c_17 => hk0 b_12 b_13 μ_14 h_15 (by omega) (by omega)) h (by omega) (by omega) (by omega) (by omega) (by omega) (by omega) (by omega)
      · refine zH_bd (tX12_of (by omega) (by omega) (by omega) (by omega)) (fun x_18 p_19 => ?_)
        have q_20 : x_18.toInt = 6 * y1.toInt + y3.toInt := p_19
        refine zH_ck (zIn (iA (iL (40) (40) rfl) (rfl : x_18.toInt = _) (by omega) (by omega)) (by omega) (by omega)) ?_
        refine zH_eqc (rfl : (μ 272 (((40 : Int32) + x_18)).toNatClampNeg).toInt = _) (iL (0) (0) rfl) (fun c_21e c_21 => ?_) (fun c_21e c_21 => ?_)
        · refine zH_lt (fun x_22 e_23 => ?_)
          have q_24 : x_22.toInt = (y3.toInt + (1 : Int)) := (congrArg Int32.toInt e_23).trans (iA (rfl : y3.toInt = _) (iL (1) (1) rfl) (by omega) (by omega))
          exact ih y1 y2 x_22 μ (fun b_25 b_26 μ_27 h_28 c_29 c_30 => hk0 b_25 b_26 μ_27 h_28 (by omega) (by omega)) h (by omega) (by omega) (by omega) (by omega) (by omega) (by omega) (by omega)
        · refine zH_bd (tX12_areTogether) (fun x_31 p_32 => ?_)
          have q_33 : x_31.toInt = 0 ∨ x_31.toInt = 1 := p_32
          refine zH_eqc (rfl : x_31.toInt = _) (iL (0) (0) rfl) (fun c_34e c_34 => ?_) (fun c_34e c_34 => ?_)
          · refine zH_lt (fun x_35 e_36 => ?_)
            have q_37 : x_35.toInt = (y3.toInt + (1 : Int)) := (congrArg Int32.toInt e_36).trans (iA (rfl : y3.toInt = _) (iL (1) (1) rfl) (by omega) (by omega))
            exact ih y1 y2 x_35 μ (fun b_38 b_39 μ_40 h_41 c_42 c_43 => hk0 b_38 b_39 μ_40 h_41 (by omega) (by omega)) h (by omega) (by omega) (by omega) (by omega) (by omega) (by omega) (by omega)
          · refine zH_bp (tX12_isLost h) (fun x_44 μ_45 p_46 => ?_)
            have h_47 : K T C μ_45 := p_46.1
            have q_48 : x_44.toInt = 0 ∨ x_44.toInt = 1 := p_46.2
            refine zH_eqc (rfl : x_44.toInt = _) (iL (0) (0) rfl) (fun c_49e c_49 => ?_) (fun c_49e c_49 => ?_)
            · refine zH_bd (tX12_reads h_47 (by omega) (by omega) (by omega) (by omega) (by omega) (by omega)) (fun μ_50 p_51 => ?_)
              have h_52 : K T C μ_50 := p_51
              refine zH_lt (fun x_53 e_54 => ?_)
              have q_55 : x_53.toInt = (y3.toInt + (1 : Int)) := (congrArg Int32.toInt e_54).trans (iA (rfl : y3.toInt = _) (iL (1) (1) rfl) (by omega) (by omega))
              exact ih y1 y2 x_53 μ_50 (fun b_56 b_57 μ_58 h_59 c_60 c_61 => hk0 b_56 b_57 μ_58 h_59 (by omega) (by omega)) h_52 (by omega) (by omega) (by omega) (by omega) (by omega) (by omega) (by omega)
            · refine zH_lt (fun x_62 e_63 => ?_)
              have q_64 : x_62.toInt = (y3.toInt + (1 : Int)) := (congrArg Int32.toInt e_63).trans (iA (rfl : y3.toInt = _) (iL (1) (1) rfl) (by omega) (by omega))
              exact ih y1 y2 x_62 μ_45 (fun b_65 b_66 μ_67 h_68 c_69 c_70 => hk0 b_65 b_66 μ_67 h_68 (by omega) (by omega)) h_47 (by omega) (by omega) (by omega) (by omega) (by omega) (by omega) (by omega)
theorem tX12_groupGoes_l96 {T : Int32} {C : gM}    : ∀ (n : Nat) (y1 : Int32) (y2 : Int32) (μ : gM), K T C μ → 0 ≤ y1.toInt → y1.toInt ≤ 4 → 0 ≤ y2.toInt → y2.toInt ≤ 6 → 6 - y2.toInt < (n : Int) → zH (fX12_groupGoes_l96  n y1 y2 μ) (fun ν => K T C ν) := by
  intro n
  induction n with
  | zero =>
    intro y1 y2 μ  h g0 g1 g2 g3 gm
    exact absurd gm (by omega)
  | succ n ih =>
    intro y1 y2 μ  h g0 g1 g2 g3 gm
    rw [fX12_groupGoes_l96]
    refine zH_bd (tX12_gates h) (fun x_1 p_2 => ?_)
    have q_3 : 0 ≤ x_1.toInt ∧ x_1.toInt ≤ 6 := p_2
    refine zH_lec (rfl : x_1.toInt = _) (rfl : y2.toInt = _) (fun c_4 => ?_) (fun c_4 => ?_)
    · exact zH_some h
    · refine zH_ck (zIn (rfl : y2.toInt = _) (by omega) (by omega)) ?_
      refine zH_eqc (rfl : (μ 275 (y2).toNatClampNeg).toInt = _) (iL (0) (0) rfl) (fun c_5e c_5 => ?_) (fun c_5e c_5 => ?_)
      · refine zH_lt (fun x_6 e_7 => ?_)
        have q_8 : x_6.toInt = (y2.toInt + (1 : Int)) := (congrArg Int32.toInt e_7).trans (iA (rfl : y2.toInt = _) (iL (1) (1) rfl) (by omega) (by omega))
        exact ih y1 x_6 μ h (by omega) (by omega) (by omega) (by omega) (by omega)
      · have q_9 : (0 : Int32).toInt = (0 : Int) := (iL (0) (0) rfl)
        exact tX12_groupGoes_l118 100000 y1 y2 (0 : Int32) μ (fun b_10 b_11 μ_12 h_13 c_14 c_15 => ih b_10 b_11 μ_12 h_13 (by omega) (by omega) (by omega) (by omega) (by omega)) h (by omega) (by omega) (by omega) (by omega) (by omega) (by omega) (by omega)
theorem tX12_groupGoes_l47 {T : Int32} {C : gM}    : ∀ (n : Nat) (y1 : Int32) (y2 : Int32) (μ : gM), K T C μ → 0 ≤ y1.toInt → y1.toInt ≤ 4 → 0 ≤ y2.toInt → y2.toInt ≤ 6 → 6 - y2.toInt < (n : Int) → zH (fX12_groupGoes_l47  n y1 y2 μ) (fun ν => K T C ν) := by
  intro n
  induction n with
  | zero =>
    intro y1 y2 μ  h g0 g1 g2 g3 gm
    exact absurd gm (by omega)
  | succ n ih =>
    intro y1 y2 μ  h g0 g1 g2 g3 gm
    rw [fX12_groupGoes_l47]
    refine zH_bd (tX12_gates h) (fun x_1 p_2 => ?_)
    have q_3 : 0 ≤ x_1.toInt ∧ x_1.toInt ≤ 6 := p_2
    refine zH_lec (rfl : x_1.toInt = _) (rfl : y2.toInt = _) (fun c_4 => ?_) (fun c_4 => ?_)
    · have q_5 : (0 : Int32).toInt = (0 : Int) := (iL (0) (0) rfl)
      exact zH_mono (tX12_groupGoes_l96 100000 y1 (0 : Int32) μ h (by omega) (by omega) (by omega) (by omega) (by omega)) (fun r_7 p_6 => p_6)
    · refine zH_bd (tX12_of (by omega) (by omega) (by omega) (by omega)) (fun x_8 p_9 => ?_)
      have q_10 : x_8.toInt = 6 * y1.toInt + y2.toInt := p_9
      refine zH_ck (zIn (iA (iL (40) (40) rfl) (rfl : x_8.toInt = _) (by omega) (by omega)) (by omega) (by omega)) ?_
      refine zH_eqc (rfl : (μ 272 (((40 : Int32) + x_8)).toNatClampNeg).toInt = _) (iL (0) (0) rfl) (fun c_11e c_11 => ?_) (fun c_11e c_11 => ?_)
      · refine zH_lt (fun x_12 e_13 => ?_)
        have q_14 : x_12.toInt = (y2.toInt + (1 : Int)) := (congrArg Int32.toInt e_13).trans (iA (rfl : y2.toInt = _) (iL (1) (1) rfl) (by omega) (by omega))
        exact ih y1 x_12 μ h (by omega) (by omega) (by omega) (by omega) (by omega)
      · refine zH_bd (tX12_of (by omega) (by omega) (by omega) (by omega)) (fun x_15 p_16 => ?_)
        have q_17 : x_15.toInt = 6 * y1.toInt + y2.toInt := p_16
        refine zH_lt (fun x_18 e_19 => ?_)
        have q_20 : x_18.toInt = ((70 : Int) + x_15.toInt) := (congrArg Int32.toInt e_19).trans (iA (iL (70) (70) rfl) (rfl : x_15.toInt = _) (by omega) (by omega))
        refine zH_ck (zIn (rfl : x_18.toInt = _) (by omega) (by omega)) ?_
        refine zH_ck (zIn (rfl : x_18.toInt = _) (by omega) (by omega)) ?_
        refine zH_lt (fun μ_21 e_22 => ?_)
        have h_23 : K T C μ_21 := by rw [e_22]; exact K.uw h (by have q_24 := zCl (rfl : x_18.toInt = _) (by omega); omega)
        refine zH_lt (fun x_25 e_26 => ?_)
        have q_27 : x_25.toInt = (y2.toInt + (1 : Int)) := (congrArg Int32.toInt e_26).trans (iA (rfl : y2.toInt = _) (iL (1) (1) rfl) (by omega) (by omega))
        exact ih y1 x_25 μ_21 h_23 (by omega) (by omega) (by omega) (by omega) (by omega)
theorem tX12_groupGoes_l2 {T : Int32} {C : gM}    : ∀ (n : Nat) (y1 : Int32) (y2 : Int32) (μ : gM), K T C μ → 0 ≤ y1.toInt → y1.toInt ≤ 4 → 0 ≤ y2.toInt → y2.toInt ≤ 6 → 6 - y2.toInt < (n : Int) → zH (fX12_groupGoes_l2  n y1 y2 μ) (fun ν => K T C ν) := by
  intro n
  induction n with
  | zero =>
    intro y1 y2 μ  h g0 g1 g2 g3 gm
    exact absurd gm (by omega)
  | succ n ih =>
    intro y1 y2 μ  h g0 g1 g2 g3 gm
    rw [fX12_groupGoes_l2]
    refine zH_bd (tX12_gates h) (fun x_1 p_2 => ?_)
    have q_3 : 0 ≤ x_1.toInt ∧ x_1.toInt ≤ 6 := p_2
    refine zH_lec (rfl : x_1.toInt = _) (rfl : y2.toInt = _) (fun c_4 => ?_) (fun c_4 => ?_)
    · have q_5 : (0 : Int32).toInt = (0 : Int) := (iL (0) (0) rfl)
      exact zH_mono (tX12_groupGoes_l47 100000 y1 (0 : Int32) μ h (by omega) (by omega) (by omega) (by omega) (by omega)) (fun r_7 p_6 => p_6)
    · refine zH_ck (zIn (rfl : y2.toInt = _) (by omega) (by omega)) ?_
      refine zH_lt (fun μ_8 e_9 => ?_)
      have h_10 : K T C μ_8 := by rw [e_9]; exact K.uf h (by decide)
      refine zH_bd (tX12_of (by omega) (by omega) (by omega) (by omega)) (fun x_11 p_12 => ?_)
      have q_13 : x_11.toInt = 6 * y1.toInt + y2.toInt := p_12
      refine zH_ck (zIn (iA (iL (40) (40) rfl) (rfl : x_11.toInt = _) (by omega) (by omega)) (by omega) (by omega)) ?_
      refine zH_eqc (rfl : (μ_8 272 (((40 : Int32) + x_11)).toNatClampNeg).toInt = _) (iL (0) (0) rfl) (fun c_14e c_14 => ?_) (fun c_14e c_14 => ?_)
      · refine zH_lt (fun x_15 e_16 => ?_)
        have q_17 : x_15.toInt = (y2.toInt + (1 : Int)) := (congrArg Int32.toInt e_16).trans (iA (rfl : y2.toInt = _) (iL (1) (1) rfl) (by omega) (by omega))
        exact ih y1 x_15 μ_8 h_10 (by omega) (by omega) (by omega) (by omega) (by omega)
      · refine zH_bd (tX12_sends h_10 (by omega) (by omega) (by omega) (by omega)) (fun μ_18 p_19 => ?_)
        have h_20 : K T C μ_18 := p_19
        refine zH_lt (fun x_21 e_22 => ?_)
        have q_23 : x_21.toInt = (y2.toInt + (1 : Int)) := (congrArg Int32.toInt e_22).trans (iA (rfl : y2.toInt = _) (iL (1) (1) rfl) (by omega) (by omega))
        exact ih y1 x_21 μ_18 h_20 (by omega) (by omega) (by omega) (by omega) (by omega)
theorem tX12_groupGoes {T : Int32} {C : gM} {a1 : Int32} {μ : gM}  (h : K T C μ) (g0 : 0 ≤ a1.toInt) (g1 : a1.toInt ≤ 4) : zH (fX12_groupGoes a1 μ) (fun ν => K T C ν) := by
  unfold fX12_groupGoes
  have q_1 : (0 : Int32).toInt = (0 : Int) := (iL (0) (0) rfl)
  exact zH_mono (tX12_groupGoes_l2 100000 a1 (0 : Int32) μ h (by omega) (by omega) (by omega) (by omega) (by omega)) (fun r_3 p_2 => p_2)
theorem tX12_bitsOf_l5 {T : Int32} {C : gM}    : ∀ (n : Nat) (y1 : Int32) (y2 : Int32) (y3 : Int32) (y4 : Int32) (μ : gM), K T C μ → 0 ≤ y1.toInt → y1.toInt ≤ 4 → 0 ≤ y3.toInt → y3.toInt ≤ 63 → 0 ≤ y4.toInt → y4.toInt ≤ 6 → 6 - y4.toInt < (n : Int) → zH (fX12_bitsOf_l5  n y1 y2 y3 y4 μ) (fun v => 0 ≤ v.toInt ∧ v.toInt ≤ 63) := by
  intro n
  induction n with
  | zero =>
    intro y1 y2 y3 y4 μ  h g0 g1 g2 g3 g4 g5 gm
    exact absurd gm (by omega)
  | succ n ih =>
    intro y1 y2 y3 y4 μ  h g0 g1 g2 g3 g4 g5 gm
    rw [fX12_bitsOf_l5]
    refine zH_bd (tX12_gates h) (fun x_1 p_2 => ?_)
    have q_3 : 0 ≤ x_1.toInt ∧ x_1.toInt ≤ 6 := p_2
    refine zH_lec (rfl : x_1.toInt = _) (rfl : y4.toInt = _) (fun c_4 => ?_) (fun c_4 => ?_)
    · exact zH_some (show 0 ≤ y3.toInt ∧ y3.toInt ≤ 63 from by have q_5 : (y3).toInt = y3.toInt := (rfl : y3.toInt = _); omega)
    · refine zH_bd (tX12_of (by omega) (by omega) (by omega) (by omega)) (fun x_6 p_7 => ?_)
      have q_8 : x_6.toInt = 6 * y1.toInt + y4.toInt := p_7
      refine zH_ck (zIn (iA (iL (40) (40) rfl) (rfl : x_6.toInt = _) (by omega) (by omega)) (by omega) (by omega)) ?_
      refine zH_ltc (rfl : (μ 272 (((40 : Int32) + x_6)).toNatClampNeg).toInt = _) (rfl : y2.toInt = _) (fun c_9 => ?_) (fun c_9 => ?_)
      · refine zH_lt (fun x_10 e_11 => ?_)
        have q_12 : x_10.toInt = (y4.toInt + (1 : Int)) := (congrArg Int32.toInt e_11).trans (iA (rfl : y4.toInt = _) (iL (1) (1) rfl) (by omega) (by omega))
        exact zH_mono (ih y1 y2 y3 x_10 μ h (by omega) (by omega) (by omega) (by omega) (by omega) (by omega) (by omega)) (fun r_14 p_13 => show 0 ≤ r_14.toInt ∧ r_14.toInt ≤ 63 from by have q_15 : 0 ≤ r_14.toInt ∧ r_14.toInt ≤ 63 := p_13; omega)
      · refine zH_lt (fun x_16 e_17 => ?_)
        have q_18 : 0 ≤ x_16.toInt ∧ x_16.toInt ≤ 63 := by rw [e_17]; exact or63 (by omega) (by omega) (by omega) (by omega)
        refine zH_lt (fun x_19 e_20 => ?_)
        have q_21 : x_19.toInt = (y4.toInt + (1 : Int)) := (congrArg Int32.toInt e_20).trans (iA (rfl : y4.toInt = _) (iL (1) (1) rfl) (by omega) (by omega))
        exact zH_mono (ih y1 y2 x_16 x_19 μ h (by omega) (by omega) (by omega) (by omega) (by omega) (by omega) (by omega)) (fun r_23 p_22 => show 0 ≤ r_23.toInt ∧ r_23.toInt ≤ 63 from by have q_24 : 0 ≤ r_23.toInt ∧ r_23.toInt ≤ 63 := p_22; omega)
theorem tX12_bitsOf {T : Int32} {C : gM} {a1 : Int32} {a2 : Int32} {μ : gM}  (h : K T C μ) (g0 : 0 ≤ a1.toInt) (g1 : a1.toInt ≤ 4) : zH (fX12_bitsOf a1 a2 μ) (fun v => 0 ≤ v.toInt ∧ v.toInt ≤ 63) := by
  unfold fX12_bitsOf
  have q_1 : (0 : Int32).toInt = (0 : Int) := (iL (0) (0) rfl)
  exact zH_mono (tX12_bitsOf_l5 100000 a1 a2 (0 : Int32) (0 : Int32) μ h (by omega) (by omega) (by omega) (by omega) (by omega) (by omega) (by omega)) (fun r_3 p_2 => show 0 ≤ r_3.toInt ∧ r_3.toInt ≤ 63 from by have q_4 : 0 ≤ r_3.toInt ∧ r_3.toInt ≤ 63 := p_2; omega)
theorem tX12_isOrphan {T : Int32} {C : gM} {a1 : Int32} {μ : gM}  (h : K T C μ) (g0 : 0 ≤ a1.toInt) (g1 : a1.toInt ≤ 4) : zH (fX12_isOrphan a1 μ) (fun v => v.toInt = 0 ∨ v.toInt = 1) := by
  unfold fX12_isOrphan
  have q_1 : (1 : Int32).toInt = (1 : Int) := (iL (1) (1) rfl)
  refine zH_bd (tX12_bitsOf h (by omega) (by omega)) (fun x_2 p_3 => ?_)
  have q_4 : 0 ≤ x_2.toInt ∧ x_2.toInt ≤ 63 := p_3
  refine zH_eqc (rfl : x_2.toInt = _) (iL (0) (0) rfl) (fun c_5e c_5 => ?_) (fun c_5e c_5 => ?_)
  · have q_6 : (0 : Int32).toInt = (0 : Int) := (iL (0) (0) rfl)
    exact zH_some (show (0 : Int32).toInt = 0 ∨ (0 : Int32).toInt = 1 from by have q_7 : (0 : Int32).toInt = (0 : Int) := (iL (0) (0) rfl); omega)
  · have q_8 : (2 : Int32).toInt = (2 : Int) := (iL (2) (2) rfl)
    refine zH_bd (tX12_bitsOf h (by omega) (by omega)) (fun x_9 p_10 => ?_)
    have q_11 : 0 ≤ x_9.toInt ∧ x_9.toInt ≤ 63 := p_10
    refine zH_eqc (rfl : x_9.toInt = _) (iL (0) (0) rfl) (fun c_12e c_12 => ?_) (fun c_12e c_12 => ?_)
    · exact zH_some (show (1 : Int32).toInt = 0 ∨ (1 : Int32).toInt = 1 from by have q_13 : (1 : Int32).toInt = (1 : Int) := (iL (1) (1) rfl); omega)
    · have q_14 : (0 : Int32).toInt = (0 : Int) := (iL (0) (0) rfl)
      exact zH_some (show (0 : Int32).toInt = 0 ∨ (0 : Int32).toInt = 1 from by have q_15 : (0 : Int32).toInt = (0 : Int) := (iL (0) (0) rfl); omega)
theorem tX12_isDouble {T : Int32} {C : gM} {a1 : Int32} {μ : gM}  (h : K T C μ) (g0 : 0 ≤ a1.toInt) (g1 : a1.toInt ≤ 4) : zH (fX12_isDouble a1 μ) (fun v => v.toInt = 0 ∨ v.toInt = 1) := by
  unfold fX12_isDouble
  have q_1 : (2 : Int32).toInt = (2 : Int) := (iL (2) (2) rfl)
  refine zH_bd (tX12_bitsOf h (by omega) (by omega)) (fun x_2 p_3 => ?_)
  have q_4 : 0 ≤ x_2.toInt ∧ x_2.toInt ≤ 63 := p_3
  refine zH_bd (tX12_bits (and63 (x := x_2) (by omega) (by omega)).1 (and63 (x := x_2) (by omega) (by omega)).2) (fun x_5 p_6 => ?_)
  refine zH_ltc (iL (1) (1) rfl) (rfl : x_5.toInt = _) (fun c_7 => ?_) (fun c_7 => ?_)
  · have q_8 : (1 : Int32).toInt = (1 : Int) := (iL (1) (1) rfl)
    exact zH_some (show (1 : Int32).toInt = 0 ∨ (1 : Int32).toInt = 1 from by have q_9 : (1 : Int32).toInt = (1 : Int) := (iL (1) (1) rfl); omega)
  · refine zH_bd (tX12_bits (and63 (x := x_2) (by omega) (by omega)).1 (and63 (x := x_2) (by omega) (by omega)).2) (fun x_10 p_11 => ?_)
    refine zH_lec (rfl : x_10.toInt = _) (iL (1) (1) rfl) (fun c_12 => ?_) (fun c_12 => ?_)
    · have q_13 : (0 : Int32).toInt = (0 : Int) := (iL (0) (0) rfl)
      exact zH_some (show (0 : Int32).toInt = 0 ∨ (0 : Int32).toInt = 1 from by have q_14 : (0 : Int32).toInt = (0 : Int) := (iL (0) (0) rfl); omega)
    · have q_15 : (1 : Int32).toInt = (1 : Int) := (iL (1) (1) rfl)
      exact zH_some (show (1 : Int32).toInt = 0 ∨ (1 : Int32).toInt = 1 from by have q_16 : (1 : Int32).toInt = (1 : Int) := (iL (1) (1) rfl); omega)
