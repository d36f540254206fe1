/-! the reference's readers over its draft (cell 270) -/
theorem NOK.set {f : Nat → Int32} (h : NOK f) {i : Nat} {v : Int32} (h0 : i = 0 → 0 ≤ v.toInt ∧ v.toInt ≤ 6) (h1 : i = 1 → 0 ≤ v.toInt ∧ v.toInt ≤ 8) (h2 : i ≠ 2) (h3 : i = 3 → 0 ≤ v.toInt ∧ v.toInt ≤ 24) (h43 : 43 ≤ i → i < 48 → 1 ≤ v.toInt ∧ v.toInt ≤ 8) (h48 : 48 ≤ i → i < 53 → 0 ≤ v.toInt ∧ v.toInt ≤ 63) : NOK (fun j => if j = i then v else f j) := by
  obtain ⟨n0, n1, n2, n3, n4, n5⟩ := h
  refine ⟨?_, ?_, ?_, ?_, fun g hg => ?_, fun g hg => ?_⟩
  · show 0 ≤ (if 0 = i then v else f 0).toInt ∧ (if 0 = i then v else f 0).toInt ≤ 6
    split
    · rename_i e; exact h0 e.symm
    · exact n0
  · show 0 ≤ (if 1 = i then v else f 1).toInt ∧ (if 1 = i then v else f 1).toInt ≤ 8
    split
    · rename_i e; exact h1 e.symm
    · exact n1
  · show 0 ≤ (if 2 = i then v else f 2).toInt ∧ (if 2 = i then v else f 2).toInt ≤ 5
    rw [if_neg (Ne.symm h2)]; exact n2
  · show 0 ≤ (if 3 = i then v else f 3).toInt ∧ (if 3 = i then v else f 3).toInt ≤ 24
    split
    · rename_i e; exact h3 e.symm
    · exact n3
  · show (0 ≤ (if 43 + g = i then v else f (43 + g)).toInt ∧ (if 43 + g = i then v else f (43 + g)).toInt ≤ 8) ∧ ((g : Int) < (if 2 = i then v else f 2).toInt → 1 ≤ (if 43 + g = i then v else f (43 + g)).toInt)
    rw [if_neg (show ¬ 2 = i from Ne.symm h2)]
    split
    · rename_i e
      have := h43 (by omega) (by omega)
      omega
    · exact n4 g hg
  · show 0 ≤ (if 48 + g = i then v else f (48 + g)).toInt ∧ (if 48 + g = i then v else f (48 + g)).toInt ≤ 63
    split
    · rename_i e; exact h48 (by omega) (by omega)
    · exact n5 g hg
theorem zUp_fun (μ : gM) (a i : Nat) (v : Int32) : gUp μ a i v a = fun j => if j = i then v else μ a j := by
  funext j
  rw [zUp_at, if_pos rfl]
theorem K.r270 {T : Int32} {C μ ν : gM} (h : K T C μ) (h1 : ∀ a, a ≠ 270 → ν a = μ a) (hn : NOK (ν 270)) : K T C ν := by
  refine h.ug (fun b hb => h1 b (by omega)) ?_
  obtain ⟨n1, n2, n3, n4, n5⟩ := h.2.2.2
  unfold KR
  rw [h1 269 (by decide), h1 271 (by decide), h1 272 (by decide), h1 273 (by decide)]
  exact ⟨n1, hn, n3, n4, n5⟩
theorem K.ur {T : Int32} {C μ : gM} (h : K T C μ) {i : Nat} {v : Int32} (h0 : i = 0 → 0 ≤ v.toInt ∧ v.toInt ≤ 6) (h1 : i = 1 → 0 ≤ v.toInt ∧ v.toInt ≤ 8) (h2 : i ≠ 2) (h3 : i = 3 → 0 ≤ v.toInt ∧ v.toInt ≤ 24) (h43 : 43 ≤ i → i < 48 → 1 ≤ v.toInt ∧ v.toInt ≤ 8) (h48 : 48 ≤ i → i < 53 → 0 ≤ v.toInt ∧ v.toInt ≤ 63) : K T C (gUp μ 270 i v) := by
  refine h.r270 (fun a ha => zUp_ne _ ha) ?_
  rw [zUp_fun]
  exact h.2.2.2.2.1.set h0 h1 h2 h3 h43 h48
theorem K.ur2 {T : Int32} {C μ : gM} (h : K T C μ) {k : Nat} (hk : k < 5) (e : (μ 270 2).toInt = k) (g : 1 ≤ (μ 270 (43 + k)).toInt) : K T C (gUp μ 270 2 (μ 270 2 + 1)) := by
  refine h.r270 (fun a ha => zUp_ne _ ha) ?_
  rw [zUp_fun]
  obtain ⟨n0, n1, n2, n3, n4, n5⟩ := h.2.2.2.2.1
  have q : (μ 270 2 + 1).toInt = (k : Int) + 1 := iA e (iL (1) (1) rfl) (by omega) (by omega)
  refine ⟨n0, n1, ?_, n3, fun g' hg => ?_, fun g' hg => ?_⟩
  · show 0 ≤ (if 2 = 2 then μ 270 2 + 1 else μ 270 2).toInt ∧ (if 2 = 2 then μ 270 2 + 1 else μ 270 2).toInt ≤ 5
    rw [if_pos rfl]; omega
  · show (0 ≤ (if 43 + g' = 2 then μ 270 2 + 1 else μ 270 (43 + g')).toInt ∧ (if 43 + g' = 2 then μ 270 2 + 1 else μ 270 (43 + g')).toInt ≤ 8) ∧ ((g' : Int) < (if 2 = 2 then μ 270 2 + 1 else μ 270 2).toInt → 1 ≤ (if 43 + g' = 2 then μ 270 2 + 1 else μ 270 (43 + g')).toInt)
    rw [if_neg (show ¬ 43 + g' = 2 by omega), if_pos rfl]
    have := n4 g' hg
    refine ⟨this.1, fun w => ?_⟩
    by_cases e' : g' = k
    · subst e'; exact g
    · exact this.2 (by omega)
  · show 0 ≤ (if 48 + g' = 2 then μ 270 2 + 1 else μ 270 (48 + g')).toInt ∧ (if 48 + g' = 2 then μ 270 2 + 1 else μ 270 (48 + g')).toInt ≤ 63
    rw [if_neg (show ¬ 48 + g' = 2 by omega)]; exact n5 g' hg
theorem NOK.c {f : Nat → Int32} (h : NOK f) {a : Int32} (h0 : 0 ≤ a.toInt) (h2 : a.toInt ≤ 2) : 0 ≤ (f a.toNatClampNeg).toInt ∧ (f a.toNatClampNeg).toInt ≤ 8 ∧ (a.toInt = 0 → (f a.toNatClampNeg).toInt ≤ 6) ∧ (a.toInt = 2 → (f a.toNatClampNeg).toInt ≤ 5) := by
  obtain ⟨n0, n1, n2, -⟩ := h
  have e : a.toNatClampNeg = a.toInt.toNat := rfl
  have : a.toInt = 0 ∨ a.toInt = 1 ∨ a.toInt = 2 := by omega
  rcases this with q | q | q <;> rw [e, q]
  · exact ⟨n0.1, Int.le_trans n0.2 (by decide), fun _ => n0.2, fun w => absurd w (by decide)⟩
  · exact ⟨n1.1, n1.2, fun w => absurd w (by decide), fun w => absurd w (by decide)⟩
  · exact ⟨n2.1, Int.le_trans n2.2 (by decide), fun w => absurd w (by decide), fun _ => n2.2⟩
def QName (s : Int32) (v : Int32) : Prop := v.toInt = -1 ∨ (0 ≤ v.toInt ∧ v.toInt < 8 ∧ (s.toInt = 0 → v.toInt < 6) ∧ (s.toInt = 2 → v.toInt < 5))
theorem tX12_nameOf_l2 {p1 : Nat} : ∀ (n : Nat) (y1 y2 y3 : Int32) (μ : gM), NOK (μ p1) → 0 ≤ y1.toInt → y1.toInt ≤ 2 → 0 ≤ y3.toInt → y3.toInt ≤ 8 → 8 - y3.toInt < (n : Int) → zH (fX12_nameOf_l2 p1 n y1 y2 y3 μ) (QName y1) := by
  intro n
  induction n with
  | zero =>
    intro y1 y2 y3 μ h g0 g1 g2 g3 gm
    exact absurd gm (by omega)
  | succ n ih =>
    intro y1 y2 y3 μ h g0 g1 g2 g3 gm
    rw [fX12_nameOf_l2]
    have nc := h.c g0 g1
    have z : (0 : Int32) + y1 = y1 := Int32.zero_add _
    rw [z]
    refine zH_ck (zIn (rfl : y1.toInt = _) (by omega) (by omega)) ?_
    refine zH_lec (rfl : (μ p1 y1.toNatClampNeg).toInt = _) (rfl : y3.toInt = _) (fun c => ?_) (fun c => ?_)
    · exact zH_some (Or.inl rfl)
    · refine zH_ck (zIn (iA (iA (iL (4) (4) rfl) (iM (iL (8) (8) rfl) (rfl : y1.toInt = _) (by omega) (by omega)) (by omega) (by omega)) (rfl : y3.toInt = _) (by omega) (by omega)) (by omega) (by omega)) ?_
      refine zH_ite (fun _ => zH_some (Or.inr ⟨by omega, by omega, by omega, by omega⟩)) (fun _ => ?_)
      refine zH_lt (fun x e => ?_)
      have q : x.toInt = y3.toInt + 1 := (congrArg Int32.toInt e).trans (iA rfl (iL (1) (1) rfl) (by omega) (by omega))
      exact ih y1 y2 x μ h g0 g1 (by omega) (by omega) (by omega)
theorem tX12_nameOf {p1 : Nat} {a2 a3 : Int32} {μ : gM} (h : NOK (μ p1)) (g0 : 0 ≤ a2.toInt) (g1 : a2.toInt ≤ 2) : zH (fX12_nameOf p1 a2 a3 μ) (QName a2) := by
  unfold fX12_nameOf
  exact tX12_nameOf_l2 100000 a2 a3 (0 : Int32) μ h g0 g1 (by decide) (by decide) (by decide)
theorem tX12_oneRead_n26 {C μ : gM} {p1 : Nat} {y2 : Int32} (hC : hK C) (hp : p1 ≠ 267) (hn : NOK (C p1)) (h : KL C μ) (g0 : 0 ≤ y2.toInt) (g1 : y2.toInt ≤ 2) (hl : (μ 267 6).toInt = 0 → (μ 267 4).toInt + (μ 267 11).toInt ≤ 1500) : zH (fX12_oneRead_n26 p1 y2 μ) (fun r => KL C r.2 ∧ QName y2 r.1 ∧ ((r.2 267 6).toInt = 0 → (μ 267 6).toInt = 0 ∧ r.1.toInt ≠ -1)) := by
  unfold fX12_oneRead_n26
  refine zH_bd (tX12_isFine) (fun x p => ?_)
  refine zH_eqc (rfl : x.toInt = _) (iL (0) (0) rfl) (fun _ c => zH_some ⟨h, Or.inl rfl, fun w => absurd w (p.2.2 c)⟩) (fun _ c => ?_)
  have b0 : (μ 267 6).toInt = 0 := p.2.1 (by have := p.1; omega)
  refine zH_bd (tX12_nameOf (by rw [h.1 p1 hp]; exact hn) g0 g1) (fun x6 p6 => ?_)
  refine zH_eqc (rfl : x6.toInt = _) (iL (-1) (-1) rfl) (fun _ c6 => ?_) (fun _ c6 => ?_)
  · refine zH_bd (tX12_fail hC h (by decide)) (fun ν pν => ?_)
    exact zH_some ⟨pν.1, p6, fun w => absurd w pν.2.1⟩
  · refine zH_bd (tX12_pass hC h (hl b0)) (fun ν pν => ?_)
    exact zH_some ⟨pν.1, p6, fun w => ⟨b0, c6⟩⟩
theorem tX12_oneRead {C μ : gM} {p1 : Nat} {a2 : Int32} (hC : hK C) (hp : p1 ≠ 267) (hn : NOK (C p1)) (h : KL C μ) (g0 : 0 ≤ a2.toInt) (g1 : a2.toInt ≤ 2) : zH (fX12_oneRead p1 a2 μ) (fun r => KL C r.2 ∧ QName a2 r.1 ∧ ((r.2 267 6).toInt = 0 → (μ 267 6).toInt = 0 ∧ r.1.toInt ≠ -1)) := by
  unfold fX12_oneRead
  refine zH_bp (tX12_next hC h) (fun x1 μ2 p2 => ?_)
  have q2 : (μ2 267 6).toInt = (μ 267 6).toInt := p2.2.2.1
  refine zH_lt (fun μ3 e3 => ?_)
  have h3 : KL C μ3 := by rw [e3]; exact KL.up p2.1 rfl (fun e => absurd e (by decide)) (fun e => absurd e (by decide))
  have q3 : (μ3 267 6).toInt = (μ 267 6).toInt := by rw [e3, zUp_slot _ (by decide)]; exact q2
  refine zH_bd (tX12_isFine) (fun x4 p4 => ?_)
  refine zH_eqc (rfl : x4.toInt = _) (iL (0) (0) rfl) (fun _ c => ?_) (fun _ c => ?_)
  · refine zH_mono (tX12_oneRead_n26 hC hp hn h3 g0 g1 (fun w => absurd w (p4.2.2 c))) (fun r pr => ⟨pr.1, pr.2.1, fun w => ?_⟩)
    have := pr.2.2 w
    exact ⟨by omega, this.2⟩
  · refine zH_bp (tX12_isName hC h3) (fun x11 μ12 p12 => ?_)
    have q12 : (x11.toInt = 1 → (μ12 267 4).toInt + (μ12 267 11).toInt ≤ 1500) ∧ (μ12 267 6).toInt = (μ3 267 6).toInt := p12.2.2
    have b12 : x11.toInt = 0 ∨ x11.toInt = 1 := p12.2.1
    refine zH_eqc (rfl : x11.toInt = _) (iL (0) (0) rfl) (fun _ c11 => ?_) (fun _ c11 => ?_)
    · refine zH_bd (tX12_unlike hC p12.1) (fun μ13 p13 => ?_)
      have q13 : (μ13 267 6).toInt ≠ 0 := p13.2
      refine zH_mono (tX12_oneRead_n26 hC hp hn p13.1 g0 g1 (fun w => absurd w q13)) (fun r pr => ⟨pr.1, pr.2.1, fun w => absurd (pr.2.2 w).1 q13⟩)
    · refine zH_mono (tX12_oneRead_n26 hC hp hn p12.1 g0 g1 (fun w => q12.1 (by omega))) (fun r pr => ⟨pr.1, pr.2.1, fun w => ?_⟩)
      have := pr.2.2 w
      exact ⟨by omega, this.2⟩
