/-! the reference's cells: what keeps every index in its row -/
def lxs (i : Nat) : Bool := i == 4 || i == 5 || i == 6 || i == 7 || i == 10 || i == 11 || i == 12 || i == 16
def KL (C μ : gM) : Prop := (∀ a, a ≠ 267 → μ a = C a) ∧ (∀ i, lxs i = false → μ 267 i = C 267 i) ∧ (0 ≤ (μ 267 4).toInt ∧ (μ 267 4).toInt ≤ 1500) ∧ 0 ≤ (μ 267 11).toInt ∧ (μ 267 11).toInt ≤ 1500
def hK (C : gM) : Prop := 0 ≤ (C 267 3).toInt ∧ (C 267 3).toInt ≤ 1500
theorem KL.up {C μ : gM} (h : KL C μ) {i : Nat} {v : Int32} (hi : lxs i = true) (h4 : i = 4 → 0 ≤ v.toInt ∧ v.toInt ≤ 1500) (h11 : i = 11 → 0 ≤ v.toInt ∧ v.toInt ≤ 1500) : KL C (gUp μ 267 i v) := by
  refine ⟨fun a ha => by rw [zUp_ne _ ha]; exact h.1 a ha, fun j hj => ?_, ?_, ?_⟩
  · have e : j ≠ i := fun e => by rw [e, hi] at hj; exact absurd hj (by decide)
    rw [zUp_slot _ e]; exact h.2.1 j hj
  · by_cases e : i = 4
    · subst e; rw [zUp_same]; exact h4 rfl
    · rw [zUp_slot _ (Ne.symm e)]; exact h.2.2.1
  · by_cases e : i = 11
    · subst e; rw [zUp_same]; exact h11 rfl
    · rw [zUp_slot _ (Ne.symm e)]; exact h.2.2.2
theorem KL.szI {C μ : gM} (h : KL C μ) (hC : hK C) : (0 ≤ (μ 267 3).toInt ∧ (μ 267 3).toInt ≤ 1500) ∧ (μ 267 3).toInt = (C 267 3).toInt := by
  rw [h.2.1 3 rfl]
  exact ⟨hC, rfl⟩
theorem KL.tr {A B C : gM} (h : KL A B) (g : KL B C) : KL A C := ⟨fun a ha => (g.1 a ha).trans (h.1 a ha), fun i hi => (g.2.1 i hi).trans (h.2.1 i hi), g.2.2⟩
def RowOK (a b c : Int) : Prop := (a = 1 → 0 ≤ b ∧ b ≤ 5) ∧ (a < 0 ∨ 5 < a → (0 ≤ b ∧ b ≤ 5) ∧ 0 ≤ c ∧ c ≤ 4)
def ERO (f : Nat → Int32) : Prop := ∀ k, k < 20 → RowOK (f (5 * k + 1)).toInt (f (5 * k + 2)).toInt (f (5 * k + 3)).toInt
def WOK (f : Nat → Int32) : Prop := (0 ≤ (f 7).toInt ∧ (f 7).toInt ≤ 60) ∧ (0 ≤ (f 8).toInt ∧ (f 8).toInt ≤ 20) ∧ ERO (fun i => f (145 + i))
def NOK (f : Nat → Int32) : Prop := (0 ≤ (f 0).toInt ∧ (f 0).toInt ≤ 6) ∧ (0 ≤ (f 1).toInt ∧ (f 1).toInt ≤ 8) ∧ (0 ≤ (f 2).toInt ∧ (f 2).toInt ≤ 5) ∧ (0 ≤ (f 3).toInt ∧ (f 3).toInt ≤ 24) ∧ (∀ g, g < 5 → (0 ≤ (f (43 + g)).toInt ∧ (f (43 + g)).toInt ≤ 8) ∧ ((g : Int) < (f 2).toInt → 1 ≤ (f (43 + g)).toInt)) ∧ ∀ g, g < 5 → 0 ≤ (f (48 + g)).toInt ∧ (f (48 + g)).toInt ≤ 63
def KB (μ : gM) : Prop := (0 ≤ (μ 267 3).toInt ∧ (μ 267 3).toInt ≤ 1500) ∧ (0 ≤ (μ 267 4).toInt ∧ (μ 267 4).toInt ≤ 1500) ∧ (0 ≤ (μ 267 11).toInt ∧ (μ 267 11).toInt ≤ 1500) ∧ (0 ≤ (μ 267 20).toInt ∧ (μ 267 20).toInt ≤ 12)
def KR (μ : gM) : Prop := NOK (μ 269) ∧ NOK (μ 270) ∧ ERO (μ 271) ∧ WOK (μ 272) ∧ ∀ b, b < 15 → WOK (fun k => μ 273 (490 * b + k))
/-- what stays: the class's cells, the reference's tape and net, what it keeps of a fault, whether there is a net -/
def KF (C μ : gM) : Prop := (∀ a, a < 267 ∨ a = 268 ∨ a = 269 → μ a = C a) ∧ μ 267 8 = C 267 8 ∧ μ 267 9 = C 267 9 ∧ μ 267 15 = C 267 15
def K (T : Int32) (C μ : gM) : Prop := KF C μ ∧ (μ 267 2 = T ∧ 0 ≤ T.toInt ∧ T.toInt ≤ 1500) ∧ KB μ ∧ KR μ
theorem K.hk {T : Int32} {C μ : gM} (h : K T C μ) : hK μ := h.2.2.1.1
theorem K.kl {T : Int32} {C μ : gM} (h : K T C μ) : KL μ μ := ⟨fun _ _ => rfl, fun _ _ => rfl, h.2.2.1.2.1, h.2.2.1.2.2.1⟩
theorem K.lex {T : Int32} {C μ ν : gM} (h : K T C μ) (g : KL μ ν) : K T C ν := by
  obtain ⟨h1, h2, ⟨b1, b2, b3, b4⟩, h4⟩ := h
  refine ⟨⟨fun a ha => by rw [g.1 a (by omega)]; exact h1.1 a ha, by rw [g.2.1 8 rfl]; exact h1.2.1, by rw [g.2.1 9 rfl]; exact h1.2.2.1, by rw [g.2.1 15 rfl]; exact h1.2.2.2⟩, by rw [g.2.1 2 rfl]; exact h2, ⟨by rw [g.2.1 3 rfl]; exact b1, g.2.2.1, g.2.2.2, by rw [g.2.1 20 rfl]; exact b4⟩, ?_⟩
  unfold KR at *
  rw [g.1 269 (by decide), g.1 270 (by decide), g.1 271 (by decide), g.1 272 (by decide), g.1 273 (by decide)]
  exact h4
theorem K.u267 {T : Int32} {C μ : gM} (h : K T C μ) {i : Nat} {v : Int32} (h2 : i ≠ 2 ∧ i ≠ 8 ∧ i ≠ 9 ∧ i ≠ 15) (h3 : i = 3 ∨ i = 4 ∨ i = 11 → 0 ≤ v.toInt ∧ v.toInt ≤ 1500) (h20 : i = 20 → 0 ≤ v.toInt ∧ v.toInt ≤ 12) : K T C (gUp μ 267 i v) := by
  obtain ⟨h1, h2', ⟨b1, b2, b3, b4⟩, h4⟩ := h
  refine ⟨⟨fun a ha => by rw [zUp_ne _ (by omega)]; exact h1.1 a ha, by rw [zUp_slot _ (by omega)]; exact h1.2.1, by rw [zUp_slot _ (by omega)]; exact h1.2.2.1, by rw [zUp_slot _ (by omega)]; exact h1.2.2.2⟩, by rw [zUp_slot _ (by omega)]; exact h2', ⟨?_, ?_, ?_, ?_⟩, ?_⟩
  · by_cases e : i = 3
    · subst e; rw [zUp_same]; exact h3 (Or.inl rfl)
    · rw [zUp_slot _ (Ne.symm e)]; exact b1
  · by_cases e : i = 4
    · subst e; rw [zUp_same]; exact h3 (Or.inr (Or.inl rfl))
    · rw [zUp_slot _ (Ne.symm e)]; exact b2
  · by_cases e : i = 11
    · subst e; rw [zUp_same]; exact h3 (Or.inr (Or.inr rfl))
    · rw [zUp_slot _ (Ne.symm e)]; exact b3
  · by_cases e : i = 20
    · subst e; rw [zUp_same]; exact h20 rfl
    · rw [zUp_slot _ (Ne.symm e)]; exact b4
  · unfold KR at *
    rw [zUp_ne _ (by decide), zUp_ne _ (by decide), zUp_ne _ (by decide), zUp_ne _ (by decide), zUp_ne _ (by decide)]
    exact h4
theorem K.ug {T : Int32} {C μ ν : gM} (h : K T C μ) (h1 : ∀ a, a ≤ 269 → ν a = μ a) (h2 : KR ν) : K T C ν := by
  obtain ⟨g1, g2, g3, g4⟩ := h
  refine ⟨⟨fun a ha => by rw [h1 a (by omega)]; exact g1.1 a ha, by rw [h1 267 (by omega)]; exact g1.2.1, by rw [h1 267 (by omega)]; exact g1.2.2.1, by rw [h1 267 (by omega)]; exact g1.2.2.2⟩, by rw [h1 267 (by omega)]; exact g2, ?_, h2⟩
  unfold KB at *
  rw [h1 267 (by omega)]
  exact g3
theorem K.uf {T : Int32} {C μ : gM} (h : K T C μ) {a i : Nat} {v : Int32} (ha : 274 ≤ a) : K T C (gUp μ a i v) := by
  refine h.ug (fun b hb => zUp_ne _ (by omega)) ?_
  have := h.2.2.2
  unfold KR at *
  rw [zUp_ne _ (by omega), zUp_ne _ (by omega), zUp_ne _ (by omega), zUp_ne _ (by omega), zUp_ne _ (by omega)]
  exact this
theorem WOK.u {f g : Nat → Int32} (h : WOK f) (e7 : 0 ≤ (g 7).toInt ∧ (g 7).toInt ≤ 60) (e8 : 0 ≤ (g 8).toInt ∧ (g 8).toInt ≤ 20) (ee : ∀ j, 145 ≤ j → j < 245 → g j = f j) : WOK g := by
  refine ⟨e7, e8, fun k hk => ?_⟩
  have := h.2.2 k hk
  show RowOK (g (145 + (5 * k + 1))).toInt (g (145 + (5 * k + 2))).toInt (g (145 + (5 * k + 3))).toInt
  rw [ee _ (by omega) (by omega), ee _ (by omega) (by omega), ee _ (by omega) (by omega)]
  exact this
theorem K.w272 {T : Int32} {C μ : gM} (h : K T C μ) {i : Nat} {v : Int32} (hw : WOK (gUp μ 272 i v 272)) : K T C (gUp μ 272 i v) := by
  refine h.ug (fun b hb => zUp_ne _ (by omega)) ?_
  obtain ⟨n1, n2, n3, n4, n5⟩ := h.2.2.2
  unfold KR
  rw [zUp_ne _ (by decide), zUp_ne _ (by decide), zUp_ne _ (by decide), zUp_ne (b := 273) _ (by decide)]
  exact ⟨n1, n2, n3, hw, n5⟩
theorem K.uw {T : Int32} {C μ : gM} (h : K T C μ) {i : Nat} {v : Int32} (hi : (i < 145 ∧ i ≠ 7 ∧ i ≠ 8) ∨ 245 ≤ i) : K T C (gUp μ 272 i v) := by
  have w := h.2.2.2.2.2.2.1
  exact h.w272 (w.u (by rw [zUp_slot _ (by omega)]; exact w.1) (by rw [zUp_slot _ (by omega)]; exact w.2.1) (fun j h1 h2 => zUp_slot _ (by omega)))
theorem K.uw7 {T : Int32} {C μ : gM} (h : K T C μ) {v : Int32} (hv : 0 ≤ v.toInt ∧ v.toInt ≤ 60) : K T C (gUp μ 272 7 v) := by
  have w := h.2.2.2.2.2.2.1
  exact h.w272 (w.u (by rw [zUp_same]; exact hv) (by rw [zUp_slot _ (by decide)]; exact w.2.1) (fun j h1 h2 => zUp_slot _ (by omega)))
theorem K.uw8 {T : Int32} {C μ : gM} (h : K T C μ) {v : Int32} (hv : 0 ≤ v.toInt ∧ v.toInt ≤ 20) : K T C (gUp μ 272 8 v) := by
  have w := h.2.2.2.2.2.2.1
  exact h.w272 (w.u (by rw [zUp_slot _ (by decide)]; exact w.1) (by rw [zUp_same]; exact hv) (fun j h1 h2 => zUp_slot _ (by omega)))
theorem ERO.z {f : Nat → Int32} (h : ERO f) (i : Nat) : ERO (fun j => if j = i then 0 else f j) := by
  intro k hk
  have := h k hk
  unfold RowOK at *
  have z : (0 : Int32).toInt = 0 := rfl
  refine ⟨fun e => ?_, fun e => ?_⟩
  all_goals
    dsimp only at e ⊢
    split at e <;> (repeat' split) <;> omega
theorem K.uz {T : Int32} {C μ : gM} (h : K T C μ) (i : Nat) : K T C (gUp μ 272 i 0) := by
  have w := h.2.2.2.2.2.2.1
  refine h.w272 ⟨?_, ?_, ?_⟩
  · rw [zUp_at, if_pos rfl]; split
    · exact ⟨by decide, by decide⟩
    · exact w.1
  · rw [zUp_at, if_pos rfl]; split
    · exact ⟨by decide, by decide⟩
    · exact w.2.1
  · by_cases hi : 145 ≤ i
    · have := ERO.z w.2.2 (i - 145)
      have e : (fun j => gUp μ 272 i 0 272 (145 + j)) = fun j => if j = i - 145 then (0 : Int32) else μ 272 (145 + j) := by
        funext j
        rw [zUp_at, if_pos rfl]
        by_cases q : 145 + j = i
        · rw [if_pos q, if_pos (by omega)]
        · rw [if_neg q, if_neg (by omega)]
      rw [e]; exact this
    · have e : (fun j => gUp μ 272 i 0 272 (145 + j)) = fun j => μ 272 (145 + j) := by
        funext j
        rw [zUp_slot _ (by omega)]
      rw [e]; exact w.2.2
theorem iLL (a : Int64) (x : Int) (h : a.toInt = x) : a.toInt = x := h
theorem i64 {e : Int32} {x : Int} (h : e.toInt = x) : e.toInt64.toInt = x := by rw [Int32.toInt_toInt64, h]
theorem tX12_isIn {a b c : Int64} {μ : gM} {x y z : Int} (ha : a.toInt = x) (hb : b.toInt = y) (hc : c.toInt = z) : zH (fX12_isIn a b c μ) (fun v => (v.toInt = 0 ∨ v.toInt = 1) ∧ (v.toInt = 1 → y ≤ x ∧ x ≤ z) ∧ (v.toInt = 0 → x < y ∨ z < x)) := by
  subst ha hb hc
  have e1 : lg_cmp a b < 0 ↔ a.toInt < b.toInt := by
    rw [← Int64.lt_iff_toInt_lt]
    unfold lg_cmp
    by_cases h : a > b
    · rw [if_pos h]
      have h2 : ¬ a < b := by rw [gt_iff_lt] at h; rw [Int64.lt_iff_toInt_lt] at *; omega
      simp only [h2, iff_false]; decide
    · rw [if_neg h]
      by_cases h2 : a = b
      · rw [if_pos h2]; subst h2
        have h4 : ¬ a < a := by rw [Int64.lt_iff_toInt_lt]; omega
        simp only [h4, iff_false]; decide
      · rw [if_neg h2]
        have h4 : a < b := by
          rw [gt_iff_lt] at h
          rw [Int64.lt_iff_toInt_lt] at *
          have h5 : ¬ a.toInt = b.toInt := fun q => h2 (Int64.toInt_inj.mp q)
          omega
        simp only [h4, iff_true]; decide
  have e2 : 0 < lg_cmp a c ↔ c.toInt < a.toInt := by
    rw [← Int64.lt_iff_toInt_lt]
    unfold lg_cmp
    by_cases h : a > c
    · rw [if_pos h]; simp only [gt_iff_lt] at h; simp only [h, iff_true]; decide
    · rw [if_neg h]; simp only [gt_iff_lt] at h; simp only [h, iff_false]
      split <;> decide
  unfold fX12_isIn
  refine zH_ite (fun h => ?_) (fun h => ?_)
  · have h := e1.mp h
    exact zH_some ⟨Or.inl rfl, fun w => absurd w (by decide), fun _ => Or.inl h⟩
  · have h : ¬ a.toInt < b.toInt := fun q => h (e1.mpr q)
    refine zH_ite (fun h' => ?_) (fun h' => ?_)
    · have h' := e2.mp h'
      exact zH_some ⟨Or.inl rfl, fun w => absurd w (by decide), fun _ => Or.inr h'⟩
    · have h' : ¬ c.toInt < a.toInt := fun q => h' (e2.mpr q)
      exact zH_some ⟨Or.inr rfl, fun _ => ⟨by omega, by omega⟩, fun w => absurd w (by decide)⟩
