/-! events, banks, the strongest -/
def bitAt (s b : Int32) : Prop := ((s >>> (b &&& 31)) &&& (1 : Int32)) = (1 : Int32)
theorem sX12_isOf {a1 a2 : Int32} {μ : gM} : zH (fX12_isOf a1 a2 μ) (fun v => (v.toInt = 0 ∨ v.toInt = 1) ∧ (v.toInt ≠ 0 → bitAt a1 a2) ∧ (v.toInt = 0 → ¬ bitAt a1 a2)) := by
  unfold fX12_isOf
  exact zH_ite (fun h => zH_some ⟨Or.inr rfl, fun _ => h, fun w => absurd w (by decide)⟩) (fun h => zH_some ⟨Or.inl rfl, fun w => absurd rfl w, fun _ => h⟩)
theorem sX12_strongestOf_l5 {T : Int32} {C : gM} : ∀ (n : Nat) (y1 y2 y3 y4 : Int32) (μ : gM), K T C μ → 0 ≤ y1.toInt → y1.toInt ≤ 4 → (y3.toInt = -1 ∨ ((0 ≤ y3.toInt ∧ y3.toInt ≤ 5) ∧ bitAt y2 y3)) → 0 ≤ y4.toInt → y4.toInt ≤ 6 → 6 - y4.toInt < (n : Int) → zH (fX12_strongestOf_l5 n y1 y2 y3 y4 μ) (fun v => v.toInt = -1 ∨ ((0 ≤ v.toInt ∧ v.toInt ≤ 5) ∧ bitAt y2 v)) := by
  intro n
  induction n with
  | zero =>
    intro y1 y2 y3 y4 μ h g0 g1 b g2 g3 gm
    exact absurd gm (by omega)
  | succ n ih =>
    intro y1 y2 y3 y4 μ h g0 g1 b g2 g3 gm
    rw [fX12_strongestOf_l5]
    have q4 := iA (rfl : y4.toInt = _) (iL (1) (1) rfl) (by omega) (by omega)
    refine zH_bd (tX12_gates h) (fun x1 p1 => ?_)
    have p1 : 0 ≤ x1.toInt ∧ x1.toInt ≤ 6 := p1
    refine zH_lec (rfl : x1.toInt = _) (rfl : y4.toInt = _) (fun c => zH_some b) (fun c => ?_)
    refine zH_bd sX12_isOf (fun x2 p2 => ?_)
    refine zH_eqc (rfl : x2.toInt = _) (iL (0) (0) rfl) (fun _ c2 => ?_) (fun _ c2 => ?_)
    · exact zH_lt (fun x e => ih y1 y2 y3 x μ h g0 g1 b (by rw [e]; omega) (by rw [e]; omega) (by rw [e]; omega))
    · have b4 : y4.toInt = -1 ∨ ((0 ≤ y4.toInt ∧ y4.toInt ≤ 5) ∧ bitAt y2 y4) := Or.inr ⟨⟨by omega, by omega⟩, p2.2.1 c2⟩
      refine zH_eqc (rfl : y3.toInt = _) (iL (-1) (-1) rfl) (fun _ c3 => ?_) (fun _ c3 => ?_)
      · exact zH_lt (fun x e => ih y1 y2 y4 x μ h g0 g1 b4 (by rw [e]; omega) (by rw [e]; omega) (by rw [e]; omega))
      · have b3 : 0 ≤ y3.toInt ∧ y3.toInt ≤ 5 := by
          rcases b with b | b
          · exact absurd b c3
          · exact b.1
        refine zH_bd (tX12_wordOf h g0 g1 g2 (by omega)) (fun x5 p5 => ?_)
        refine zH_bd (tX12_wordOf h g0 g1 b3.1 b3.2) (fun x6 p6 => ?_)
        refine zH_bd (tX12_isStronger) (fun x7 p7 => ?_)
        refine zH_ite (fun _ => ?_) (fun _ => ?_)
        · exact zH_lt (fun x e => ih y1 y2 y3 x μ h g0 g1 b (by rw [e]; omega) (by rw [e]; omega) (by rw [e]; omega))
        · exact zH_lt (fun x e => ih y1 y2 y4 x μ h g0 g1 b4 (by rw [e]; omega) (by rw [e]; omega) (by rw [e]; omega))
theorem sX12_strongestOf {T : Int32} {C μ : gM} {a1 a2 : Int32} (h : K T C μ) (g0 : 0 ≤ a1.toInt) (g1 : a1.toInt ≤ 4) : zH (fX12_strongestOf a1 a2 μ) (fun v => v.toInt = -1 ∨ ((0 ≤ v.toInt ∧ v.toInt ≤ 5) ∧ bitAt a2 v)) := by
  unfold fX12_strongestOf
  exact sX12_strongestOf_l5 100000 a1 a2 (-1 : Int32) (0 : Int32) μ h g0 g1 (Or.inl rfl) (by decide) (by decide) (by decide)
theorem tX12_strongestOf {T : Int32} {C μ : gM} {a1 a2 : Int32} (h : K T C μ) (g0 : 0 ≤ a1.toInt) (g1 : a1.toInt ≤ 4) : zH (fX12_strongestOf a1 a2 μ) (fun v => (-1 : Int) ≤ v.toInt ∧ v.toInt ≤ 5) :=
  zH_mono (sX12_strongestOf h g0 g1) (fun v p => by rcases p with p | p <;> omega)
theorem tX12_happens {T : Int32} {C μ : gM} {a1 : Int32} (h : K T C μ) (g0 : 0 ≤ a1.toInt) (g1 : a1.toInt ≤ 19) : zH (fX12_happens a1 μ) (fun ν => K T C ν) := by
  unfold fX12_happens
  obtain ⟨n, hn⟩ : ∃ n : Nat, a1.toInt = n := ⟨a1.toInt.toNat, by omega⟩
  have q := iA (iL (145) (145) rfl) (iM (iL (5) (5) rfl) hn (by omega) (by omega)) (by omega) (by omega)
  have q1 := iA q (iL (1) (1) rfl) (by omega) (by omega)
  have q2 := iA q (iL (2) (2) rfl) (by omega) (by omega)
  have q3 := iA q (iL (3) (3) rfl) (by omega) (by omega)
  have q4 := iA q (iL (4) (4) rfl) (by omega) (by omega)
  have i1 := zCl q1 (by omega)
  have i2 := zCl q2 (by omega)
  have i3 := zCl q3 (by omega)
  have row := h.2.2.2.2.2.2.1.2.2 n (by omega)
  have r1 : ((145 : Int32) + (5 : Int32) * a1 + (1 : Int32)).toNatClampNeg = 145 + (5 * n + 1) := by omega
  have r2 : ((145 : Int32) + (5 : Int32) * a1 + (2 : Int32)).toNatClampNeg = 145 + (5 * n + 2) := by omega
  have r3 : ((145 : Int32) + (5 : Int32) * a1 + (3 : Int32)).toNatClampNeg = 145 + (5 * n + 3) := by omega
  refine zH_ck (zIn q2 (by omega) (by omega)) ?_
  refine zH_lt (fun x2 e2 => ?_)
  refine zH_ck (zIn q1 (by omega) (by omega)) ?_
  refine zH_lt (fun x4 e4 => ?_)
  have row : RowOK x4.toInt x2.toInt (μ 272 ((145 : Int32) + (5 : Int32) * a1 + (3 : Int32)).toNatClampNeg).toInt := by
    rw [e4, e2, r1, r2, r3]; exact row
  refine zH_eqc (rfl : x4.toInt = _) (iL (0) (0) rfl) (fun _ c0 => ?_) (fun _ c0 => ?_)
  · refine zH_bd (tX12_isUp) (fun x6 p6 => ?_)
    refine zH_ite (fun _ => ?_) (fun _ => zH_some h)
    exact zH_bd (tX12_comesUp h) (fun ν hν => zH_some hν)
  refine zH_eqc (rfl : x4.toInt = _) (iL (1) (1) rfl) (fun _ c1 => ?_) (fun _ c1 => ?_)
  · refine zH_bd (tX12_isUp) (fun x6 p6 => ?_)
    refine zH_ite (fun _ => zH_some h) (fun _ => ?_)
    have w := row.1 c1
    exact zH_bp (tX12_goesDown h w.1 w.2) (fun x ν hν => zH_some hν)
  refine zH_eqc (rfl : x4.toInt = _) (iL (2) (2) rfl) (fun _ c2 => ?_) (fun _ c2 => ?_)
  · refine zH_lt (fun ν e => zH_some (show K T C ν from ?_))
    rw [e]; exact h.uw (by decide)
  refine zH_eqc (rfl : x4.toInt = _) (iL (3) (3) rfl) (fun _ c3 => ?_) (fun _ c3 => ?_)
  · refine zH_lt (fun ν e => zH_some (show K T C ν from ?_))
    rw [e]; exact h.uw (by decide)
  refine zH_eqc (rfl : x4.toInt = _) (iL (4) (4) rfl) (fun _ c4 => ?_) (fun _ c4 => ?_)
  · refine zH_lt (fun ν e => zH_some (show K T C ν from ?_))
    rw [e]; exact h.uw (by decide)
  refine zH_eqc (rfl : x4.toInt = _) (iL (5) (5) rfl) (fun _ c5 => ?_) (fun _ c5 => ?_)
  · refine zH_lt (fun ν e => zH_some (show K T C ν from ?_))
    rw [e]; exact h.uw (by decide)
  obtain ⟨⟨w1, w2⟩, w3, w4⟩ := row.2 (by omega)
  refine zH_ck (zIn q3 (by omega) (by omega)) ?_
  refine zH_bd (tX12_of w3 w4 (by omega) (by omega)) (fun x23 p23 => ?_)
  have p23 : x23.toInt = 6 * (μ 272 ((145 : Int32) + (5 : Int32) * a1 + (3 : Int32)).toNatClampNeg).toInt + x2.toInt := p23
  have q10 := iA (iL (10) (10) rfl) (rfl : x23.toInt = _) (by omega) (by omega)
  have i10 := zCl q10 (by omega)
  refine zH_ck (zIn q4 (by omega) (by omega)) ?_
  refine zH_ck (zIn q10 (by omega) (by omega)) ?_
  refine zH_lt (fun ν e => zH_some (show K T C ν from ?_))
  rw [e]; exact h.uw (by omega)
/-- banks: w goes to one, comes from one -/
theorem puts_l2 {b : Nat} (hb : b < 15) : ∀ (n : Nat) (y1 y2 : Int32) (k : Nat) (μ : gM), y1.toInt = b → y2.toInt = k → k ≤ 490 → 490 < k + n → zH (fX12_putsTo_l2 n y1 y2 μ) (fun ν => (∀ a, a ≠ 273 → ν a = μ a) ∧ ∀ j, ν 273 j = if 490 * b + k ≤ j ∧ j < 490 * b + 490 then μ 272 (j - 490 * b) else μ 273 j) := by
  intro n
  induction n with
  | zero =>
    intro y1 y2 k μ h1 h2 h3 gm
    exact absurd gm (by omega)
  | succ n ih =>
    intro y1 y2 k μ h1 h2 h3 gm
    rw [fX12_putsTo_l2]
    refine zH_lec (iL (490) (490) rfl) h2 (fun c => zH_some ⟨fun _ _ => rfl, fun j => ?_⟩) (fun c => ?_)
    · rw [if_neg (by omega)]
    · have q := iA (iM (iL (490) (490) rfl) h1 (by omega) (by omega)) h2 (by omega) (by omega)
      have i0 := zCl q (by omega)
      have i1 := zCl h2 (by omega)
      refine zH_ck (zIn h2 (by omega) (by omega)) ?_
      refine zH_ck (zIn q (by omega) (by omega)) ?_
      refine zH_lt (fun μ3 e3 => ?_)
      refine zH_lt (fun x4 e4 => ?_)
      have q4 : x4.toInt = ((k + 1 : Nat) : Int) := (congrArg Int32.toInt e4).trans ((iA h2 (iL (1) (1) rfl) (by omega) (by omega)).trans (by omega))
      refine zH_mono (ih y1 x4 (k + 1) μ3 h1 q4 (by omega) (by omega)) (fun ν p => ⟨fun a ha => ?_, fun j => ?_⟩)
      · rw [p.1 a ha, e3, zUp_ne _ ha]
      · rw [p.2 j]
        have w : μ3 272 = μ 272 := by rw [e3]; exact zUp_ne _ (by decide)
        rw [w]
        by_cases ej : j = 490 * b + k
        · rw [if_neg (by omega), if_pos (by omega), e3, show j = ((490 : Int32) * y1 + y2).toNatClampNeg by omega, zUp_same]
          congr 1
          omega
        · have w3 : μ3 273 j = μ 273 j := by rw [e3, zUp_slot _ (by omega)]
          rw [w3]
          by_cases c1 : 490 * b + (k + 1) ≤ j ∧ j < 490 * b + 490
          · rw [if_pos c1, if_pos (by omega)]
          · rw [if_neg c1, if_neg (by omega)]
theorem takes_l2 {b : Nat} (hb : b < 15) : ∀ (n : Nat) (y1 y2 : Int32) (k : Nat) (μ : gM), y1.toInt = b → y2.toInt = k → k ≤ 490 → 490 < k + n → zH (fX12_takesFrom_l2 n y1 y2 μ) (fun ν => (∀ a, a ≠ 272 → ν a = μ a) ∧ ∀ j, ν 272 j = if k ≤ j ∧ j < 490 then μ 273 (490 * b + j) else μ 272 j) := by
  intro n
  induction n with
  | zero =>
    intro y1 y2 k μ h1 h2 h3 gm
    exact absurd gm (by omega)
  | succ n ih =>
    intro y1 y2 k μ h1 h2 h3 gm
    rw [fX12_takesFrom_l2]
    refine zH_lec (iL (490) (490) rfl) h2 (fun c => zH_some ⟨fun _ _ => rfl, fun j => ?_⟩) (fun c => ?_)
    · rw [if_neg (by omega)]
    · have q := iA (iM (iL (490) (490) rfl) h1 (by omega) (by omega)) h2 (by omega) (by omega)
      have i0 := zCl q (by omega)
      have i1 := zCl h2 (by omega)
      refine zH_ck (zIn q (by omega) (by omega)) ?_
      refine zH_ck (zIn h2 (by omega) (by omega)) ?_
      refine zH_lt (fun μ3 e3 => ?_)
      refine zH_lt (fun x4 e4 => ?_)
      have q4 : x4.toInt = ((k + 1 : Nat) : Int) := (congrArg Int32.toInt e4).trans ((iA h2 (iL (1) (1) rfl) (by omega) (by omega)).trans (by omega))
      refine zH_mono (ih y1 x4 (k + 1) μ3 h1 q4 (by omega) (by omega)) (fun ν p => ⟨fun a ha => ?_, fun j => ?_⟩)
      · rw [p.1 a ha, e3, zUp_ne _ ha]
      · rw [p.2 j]
        have w : μ3 273 = μ 273 := by rw [e3]; exact zUp_ne _ (by decide)
        rw [w]
        by_cases ej : j = k
        · rw [if_neg (by omega), if_pos (by omega), e3, show j = y2.toNatClampNeg by omega, zUp_same]
          congr 1
          omega
        · have w3 : μ3 272 j = μ 272 j := by rw [e3, zUp_slot _ (by omega)]
          rw [w3]
          by_cases c1 : k + 1 ≤ j ∧ j < 490
          · rw [if_pos c1, if_pos (by omega)]
          · rw [if_neg c1, if_neg (by omega)]
theorem sX12_putsTo {b : Nat} {a1 : Int32} {μ : gM} (h1 : a1.toInt = b) (hb : b < 15) : zH (fX12_putsTo a1 μ) (fun ν => (∀ a, a ≠ 273 → ν a = μ a) ∧ ∀ j, ν 273 j = if 490 * b ≤ j ∧ j < 490 * b + 490 then μ 272 (j - 490 * b) else μ 273 j) := by
  unfold fX12_putsTo
  exact puts_l2 hb 100000 a1 (0 : Int32) 0 μ h1 rfl (by decide) (by decide)
theorem sX12_takesFrom {b : Nat} {a1 : Int32} {μ : gM} (h1 : a1.toInt = b) (hb : b < 15) : zH (fX12_takesFrom a1 μ) (fun ν => (∀ a, a ≠ 272 → ν a = μ a) ∧ ∀ j, ν 272 j = if 0 ≤ j ∧ j < 490 then μ 273 (490 * b + j) else μ 272 j) := by
  unfold fX12_takesFrom
  exact takes_l2 hb 100000 a1 (0 : Int32) 0 μ h1 rfl (by decide) (by decide)
theorem WOK.eq {f g : Nat → Int32} (h : WOK f) (e : ∀ j, j < 490 → g j = f j) : WOK g :=
  h.u (by rw [e 7 (by decide)]; exact h.1) (by rw [e 8 (by decide)]; exact h.2.1) (fun j h1 h2 => e j (by omega))
theorem K.b273 {T : Int32} {C μ ν : gM} (h : K T C μ) (h1 : ∀ a, a ≠ 273 → ν a = μ a) (hb : ∀ b, b < 15 → WOK (fun k => ν 273 (490 * b + k))) : K T C ν := by
  refine h.ug (fun b hb => h1 b (by omega)) ?_
  obtain ⟨n1, n2, n3, n4, n5⟩ := h.2.2.2
  unfold KR
  rw [h1 269 (by decide), h1 270 (by decide), h1 271 (by decide), h1 272 (by decide)]
  exact ⟨n1, n2, n3, n4, hb⟩
theorem K.w2 {T : Int32} {C μ ν : gM} (h : K T C μ) (h1 : ∀ a, a ≠ 272 → ν a = μ a) (hw : WOK (ν 272)) : K T C ν := by
  refine h.ug (fun b hb => h1 b (by omega)) ?_
  obtain ⟨n1, n2, n3, n4, n5⟩ := h.2.2.2
  unfold KR
  rw [h1 269 (by decide), h1 270 (by decide), h1 271 (by decide), h1 273 (by decide)]
  exact ⟨n1, n2, n3, hw, n5⟩
theorem tX12_putsTo {T : Int32} {C μ : gM} {a1 : Int32} (h : K T C μ) (g0 : 0 ≤ a1.toInt) (g1 : a1.toInt ≤ 14) : zH (fX12_putsTo a1 μ) (fun ν => K T C ν ∧ ((ν 267 20).toInt = (μ 267 20).toInt)) := by
  refine zH_mono (sX12_putsTo (b := a1.toInt.toNat) (by omega) (by omega)) (fun ν p => ⟨h.b273 p.1 (fun b hb => ?_), by rw [p.1 267 (by decide)]⟩)
  by_cases e : b = a1.toInt.toNat
  · subst e
    refine WOK.eq h.2.2.2.2.2.2.1 (fun j hj => ?_)
    rw [p.2, if_pos (by omega)]
    congr 1
    omega
  · refine WOK.eq (h.2.2.2.2.2.2.2 b hb) (fun j hj => ?_)
    rw [p.2, if_neg (by omega)]
theorem tX12_takesFrom {T : Int32} {C μ : gM} {a1 : Int32} (h : K T C μ) (g0 : 0 ≤ a1.toInt) (g1 : a1.toInt ≤ 14) : zH (fX12_takesFrom a1 μ) (fun ν => K T C ν ∧ ((ν 267 20).toInt = (μ 267 20).toInt)) := by
  refine zH_mono (sX12_takesFrom (b := a1.toInt.toNat) (by omega) (by omega)) (fun ν p => ⟨h.w2 p.1 ?_, by rw [p.1 267 (by decide)]⟩)
  refine WOK.eq (h.2.2.2.2.2.2.2 a1.toInt.toNat (by omega)) (fun j hj => ?_)
  rw [p.2, if_pos ⟨Nat.zero_le _, hj⟩]
theorem tX12_keepsAct_n52 {T : Int32} {C μ : gM} (h : K T C μ) (g : (μ 267 20).toInt ≤ 11) : zH (fX12_keepsAct_n52 μ) (fun ν => K T C ν) := by
  unfold fX12_keepsAct_n52
  have f : 0 ≤ (μ 267 20).toInt := h.2.2.1.2.2.2.1
  refine zH_bd (tX12_putsTo h f (by omega)) (fun μ1 p1 => ?_)
  refine zH_lt (fun μ2 e2 => zH_some (show K T C μ2 from ?_))
  have q := iA (rfl : (μ1 267 20).toInt = _) (iL (1) (1) rfl) (by have := p1.2; omega) (by have := p1.2; omega)
  rw [e2]
  exact p1.1.u267 (by decide) (fun e => absurd e (by decide)) (fun _ => by have := p1.2; omega)
theorem keeps_l13 {Q : gM → Prop} : ∀ (n : Nat) (y1 : Int32) (k : Nat) (μ : gM), y1.toInt = k → 490 ≤ k → k ≤ 5880 → 5880 < k + n → (∀ ν : gM, (∀ a, a ≠ 273 → ν a = μ a) → (∀ j, ν 273 j = if k ≤ j + 490 ∧ j + 490 < 5880 then μ 273 (j + 490) else μ 273 j) → zH (zLt (gUp ν 267 20 ((ν 267 20) - (1 : Int32))) (fun μ3 => (fX12_keepsAct_n52 μ3))) Q) → zH (fX12_keepsAct_l13 n y1 μ) Q := by
  intro n
  induction n with
  | zero =>
    intro y1 k μ h1 h2 h3 gm
    exact absurd gm (by omega)
  | succ n ih =>
    intro y1 k μ h1 h2 h3 gm hk
    rw [fX12_keepsAct_l13]
    refine zH_lec (iL (5880) (5880) rfl) h1 (fun c => ?_) (fun c => ?_)
    · refine hk μ (fun _ _ => rfl) (fun j => ?_)
      rw [if_neg (by omega)]
    · have q := iS h1 (iL (490) (490) rfl) (by omega) (by omega)
      have i0 := zCl h1 (by omega)
      have i1 := zCl q (by omega)
      refine zH_ck (zIn h1 (by omega) (by omega)) ?_
      refine zH_ck (zIn q (by omega) (by omega)) ?_
      refine zH_lt (fun μ6 e6 => ?_)
      refine zH_lt (fun x7 e7 => ?_)
      have q7 : x7.toInt = ((k + 1 : Nat) : Int) := (congrArg Int32.toInt e7).trans ((iA h1 (iL (1) (1) rfl) (by omega) (by omega)).trans (by omega))
      refine ih x7 (k + 1) μ6 q7 (by omega) (by omega) (by omega) (fun ν hν hj => ?_)
      refine hk ν (fun a ha => by rw [hν a ha, e6, zUp_ne _ ha]) (fun j => ?_)
      rw [hj j]
      by_cases ej : j + 490 = k
      · rw [if_neg (by omega), if_pos (by omega), e6, show j = (y1 - (490 : Int32)).toNatClampNeg by omega, zUp_same]
        congr 1
        omega
      · have w1 : μ6 273 j = μ 273 j := by rw [e6, zUp_slot _ (by omega)]
        rw [w1]
        by_cases c1 : k + 1 ≤ j + 490 ∧ j + 490 < 5880
        · rw [if_pos c1, if_pos (by omega), e6, zUp_slot _ (by omega)]
        · rw [if_neg c1, if_neg (by omega)]
theorem tX12_keepsAct {T : Int32} {C μ : gM} (h : K T C μ) : zH (fX12_keepsAct μ) (fun ν => K T C ν) := by
  unfold fX12_keepsAct
  have f : 0 ≤ (μ 267 20).toInt ∧ (μ 267 20).toInt ≤ 12 := h.2.2.1.2.2.2
  refine zH_eqc (rfl : (μ 267 20).toInt = _) (iL (12) (12) rfl) (fun _ c => ?_) (fun _ c => tX12_keepsAct_n52 h (by omega))
  refine keeps_l13 100000 (490 : Int32) 490 μ rfl (by decide) (by decide) (by decide) (fun ν hν hj => ?_)
  have h1 : K T C ν := h.b273 hν (fun b hb => by
    by_cases e : b < 11
    · refine WOK.eq (h.2.2.2.2.2.2.2 (b + 1) (by omega)) (fun j hj' => ?_)
      rw [hj, if_pos (by omega)]
      congr 1
      omega
    · refine WOK.eq (h.2.2.2.2.2.2.2 b hb) (fun j hj' => ?_)
      rw [hj, if_neg (by omega)])
  refine zH_lt (fun μ3 e3 => ?_)
  have w : (ν 267 20).toInt = 12 := by rw [hν 267 (by decide)]; exact c
  have q := iS w (iL (1) (1) rfl) (by omega) (by omega)
  have h3 : K T C μ3 := by rw [e3]; exact h1.u267 (by decide) (fun e => absurd e (by decide)) (fun _ => by omega)
  exact tX12_keepsAct_n52 h3 (by rw [e3, zUp_same]; omega)
