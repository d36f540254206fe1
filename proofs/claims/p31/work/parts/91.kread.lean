/-! the reference's readers over its draft (cell 270) -/
theorem NOK.set {f : Nat → Int32} (h : NOK f) {i : Nat} {v : Int32} (h0 : i = 0 → 0 ≤ v.toInt ∧ v.toInt ≤ 6) (h1 : i = 1 → 0 ≤ v.toInt ∧ v.toInt ≤ 8) (h2 : i ≠ 2) (h3 : i = 3 → 0 ≤ v.toInt ∧ v.toInt ≤ 24) (h43 : 43 ≤ i → i < 48 → 1 ≤ v.toInt ∧ v.toInt ≤ 8) (h48 : 48 ≤ i → i < 53 → 0 ≤ v.toInt ∧ v.toInt ≤ 63) : NOK (fun j => if j = i then v else f j) := by
  obtain ⟨n0, n1, n2, n3, n4, n5⟩ := h
  refine ⟨?_, ?_, ?_, ?_, fun g hg => ?_, fun g hg => ?_⟩
  · show 0 ≤ (if 0 = i then v else f 0).toInt ∧ (if 0 = i then v else f 0).toInt ≤ 6
    split
    · rename_i e; exact h0 e.symm
    · exact n0
  · show 0 ≤ (if 1 = i then v else f 1).toInt ∧ (if 1 = i then v else f 1).toInt ≤ 8
    split
    · rename_i e; exact h1 e.symm
    · exact n1
  · show 0 ≤ (if 2 = i then v else f 2).toInt ∧ (if 2 = i then v else f 2).toInt ≤ 5
    rw [if_neg (Ne.symm h2)]; exact n2
  · show 0 ≤ (if 3 = i then v else f 3).toInt ∧ (if 3 = i then v else f 3).toInt ≤ 24
    split
    · rename_i e; exact h3 e.symm
    · exact n3
  · show (0 ≤ (if 43 + g = i then v else f (43 + g)).toInt ∧ (if 43 + g = i then v else f (43 + g)).toInt ≤ 8) ∧ ((g : Int) < (if 2 = i then v else f 2).toInt → 1 ≤ (if 43 + g = i then v else f (43 + g)).toInt)
    rw [if_neg (show ¬ 2 = i from Ne.symm h2)]
    split
    · rename_i e
      have := h43 (by omega) (by omega)
      omega
    · exact n4 g hg
  · show 0 ≤ (if 48 + g = i then v else f (48 + g)).toInt ∧ (if 48 + g = i then v else f (48 + g)).toInt ≤ 63
    split
    · rename_i e; exact h48 (by omega) (by omega)
    · exact n5 g hg
theorem zUp_fun (μ : gM) (a i : Nat) (v : Int32) : gUp μ a i v a = fun j => if j = i then v else μ a j := by
  funext j
  rw [zUp_at, if_pos rfl]
theorem K.r270 {T : Int32} {C μ ν : gM} (h : K T C μ) (h1 : ∀ a, a ≠ 270 → ν a = μ a) (hn : NOK (ν 270)) : K T C ν := by
  refine h.ug (fun b hb => h1 b (by omega)) ?_
  obtain ⟨n1, n2, n3, n4, n5⟩ := h.2.2.2
  unfold KR
  rw [h1 269 (by decide), h1 271 (by decide), h1 272 (by decide), h1 273 (by decide)]
  exact ⟨n1, hn, n3, n4, n5⟩
theorem K.ur {T : Int32} {C μ : gM} (h : K T C μ) {i : Nat} {v : Int32} (h0 : i = 0 → 0 ≤ v.toInt ∧ v.toInt ≤ 6) (h1 : i = 1 → 0 ≤ v.toInt ∧ v.toInt ≤ 8) (h2 : i ≠ 2) (h3 : i = 3 → 0 ≤ v.toInt ∧ v.toInt ≤ 24) (h43 : 43 ≤ i → i < 48 → 1 ≤ v.toInt ∧ v.toInt ≤ 8) (h48 : 48 ≤ i → i < 53 → 0 ≤ v.toInt ∧ v.toInt ≤ 63) : K T C (gUp μ 270 i v) := by
  refine h.r270 (fun a ha => zUp_ne _ ha) ?_
  rw [zUp_fun]
  exact h.2.2.2.2.1.set h0 h1 h2 h3 h43 h48
theorem K.ur2 {T : Int32} {C μ : gM} (h : K T C μ) {k : Nat} (hk : k < 5) (e : (μ 270 2).toInt = k) (g : 1 ≤ (μ 270 (43 + k)).toInt) : K T C (gUp μ 270 2 (μ 270 2 + 1)) := by
  refine h.r270 (fun a ha => zUp_ne _ ha) ?_
  rw [zUp_fun]
  obtain ⟨n0, n1, n2, n3, n4, n5⟩ := h.2.2.2.2.1
  have q : (μ 270 2 + 1).toInt = (k : Int) + 1 := iA e (iL (1) (1) rfl) (by omega) (by omega)
  refine ⟨n0, n1, ?_, n3, fun g' hg => ?_, fun g' hg => ?_⟩
  · show 0 ≤ (if 2 = 2 then μ 270 2 + 1 else μ 270 2).toInt ∧ (if 2 = 2 then μ 270 2 + 1 else μ 270 2).toInt ≤ 5
    rw [if_pos rfl]; omega
  · show (0 ≤ (if 43 + g' = 2 then μ 270 2 + 1 else μ 270 (43 + g')).toInt ∧ (if 43 + g' = 2 then μ 270 2 + 1 else μ 270 (43 + g')).toInt ≤ 8) ∧ ((g' : Int) < (if 2 = 2 then μ 270 2 + 1 else μ 270 2).toInt → 1 ≤ (if 43 + g' = 2 then μ 270 2 + 1 else μ 270 (43 + g')).toInt)
    rw [if_neg (show ¬ 43 + g' = 2 by omega), if_pos rfl]
    have := n4 g' hg
    refine ⟨this.1, fun w => ?_⟩
    by_cases e' : g' = k
    · subst e'; exact g
    · exact this.2 (by omega)
  · show 0 ≤ (if 48 + g' = 2 then μ 270 2 + 1 else μ 270 (48 + g')).toInt ∧ (if 48 + g' = 2 then μ 270 2 + 1 else μ 270 (48 + g')).toInt ≤ 63
    rw [if_neg (show ¬ 48 + g' = 2 by omega)]; exact n5 g' hg
theorem NOK.c {f : Nat → Int32} (h : NOK f) {a : Int32} (h0 : 0 ≤ a.toInt) (h2 : a.toInt ≤ 2) : 0 ≤ (f a.toNatClampNeg).toInt ∧ (f a.toNatClampNeg).toInt ≤ 8 ∧ (a.toInt = 0 → (f a.toNatClampNeg).toInt ≤ 6) ∧ (a.toInt = 2 → (f a.toNatClampNeg).toInt ≤ 5) := by
  obtain ⟨n0, n1, n2, -⟩ := h
  have e : a.toNatClampNeg = a.toInt.toNat := rfl
  have : a.toInt = 0 ∨ a.toInt = 1 ∨ a.toInt = 2 := by omega
  rcases this with q | q | q <;> rw [e, q]
  · exact ⟨n0.1, Int.le_trans n0.2 (by decide), fun _ => n0.2, fun w => absurd w (by decide)⟩
  · exact ⟨n1.1, n1.2, fun w => absurd w (by decide), fun w => absurd w (by decide)⟩
  · exact ⟨n2.1, Int.le_trans n2.2 (by decide), fun w => absurd w (by decide), fun _ => n2.2⟩
def QName (s : Int32) (v : Int32) : Prop := v.toInt = -1 ∨ (0 ≤ v.toInt ∧ v.toInt < 8 ∧ (s.toInt = 0 → v.toInt < 6) ∧ (s.toInt = 2 → v.toInt < 5))
theorem tX12_nameOf_l2 {p1 : Nat} : ∀ (n : Nat) (y1 y2 y3 : Int32) (μ : gM), NOK (μ p1) → 0 ≤ y1.toInt → y1.toInt ≤ 2 → 0 ≤ y3.toInt → y3.toInt ≤ 8 → 8 - y3.toInt < (n : Int) → zH (fX12_nameOf_l2 p1 n y1 y2 y3 μ) (QName y1) := by
  intro n
  induction n with
  | zero =>
    intro y1 y2 y3 μ h g0 g1 g2 g3 gm
    exact absurd gm (by omega)
  | succ n ih =>
    intro y1 y2 y3 μ h g0 g1 g2 g3 gm
    rw [fX12_nameOf_l2]
    have nc := h.c g0 g1
    have z : (0 : Int32) + y1 = y1 := Int32.zero_add _
    rw [z]
    refine zH_ck (zIn (rfl : y1.toInt = _) (by omega) (by omega)) ?_
    refine zH_lec (rfl : (μ p1 y1.toNatClampNeg).toInt = _) (rfl : y3.toInt = _) (fun c => ?_) (fun c => ?_)
    · exact zH_some (Or.inl rfl)
    · refine zH_ck (zIn (iA (iA (iL (4) (4) rfl) (iM (iL (8) (8) rfl) (rfl : y1.toInt = _) (by omega) (by omega)) (by omega) (by omega)) (rfl : y3.toInt = _) (by omega) (by omega)) (by omega) (by omega)) ?_
      refine zH_ite (fun _ => zH_some (Or.inr ⟨by omega, by omega, by omega, by omega⟩)) (fun _ => ?_)
      refine zH_lt (fun x e => ?_)
      have q : x.toInt = y3.toInt + 1 := (congrArg Int32.toInt e).trans (iA rfl (iL (1) (1) rfl) (by omega) (by omega))
      exact ih y1 y2 x μ h g0 g1 (by omega) (by omega) (by omega)
theorem tX12_nameOf {p1 : Nat} {a2 a3 : Int32} {μ : gM} (h : NOK (μ p1)) (g0 : 0 ≤ a2.toInt) (g1 : a2.toInt ≤ 2) : zH (fX12_nameOf p1 a2 a3 μ) (QName a2) := by
  unfold fX12_nameOf
  exact tX12_nameOf_l2 100000 a2 a3 (0 : Int32) μ h g0 g1 (by decide) (by decide) (by decide)
theorem tX12_oneRead_n26 {C μ : gM} {p1 : Nat} {y2 : Int32} (hC : hK C) (hp : p1 ≠ 267) (hn : NOK (C p1)) (h : KL C μ) (g0 : 0 ≤ y2.toInt) (g1 : y2.toInt ≤ 2) (hl : (μ 267 6).toInt = 0 → (μ 267 4).toInt + (μ 267 11).toInt ≤ 1500) : zH (fX12_oneRead_n26 p1 y2 μ) (fun r => KL C r.2 ∧ QName y2 r.1 ∧ ((r.2 267 6).toInt = 0 → (μ 267 6).toInt = 0 ∧ r.1.toInt ≠ -1)) := by
  unfold fX12_oneRead_n26
  refine zH_bd (tX12_isFine) (fun x p => ?_)
  refine zH_eqc (rfl : x.toInt = _) (iL (0) (0) rfl) (fun _ c => zH_some ⟨h, Or.inl rfl, fun w => absurd w (p.2.2 c)⟩) (fun _ c => ?_)
  have b0 : (μ 267 6).toInt = 0 := p.2.1 (by have := p.1; omega)
  refine zH_bd (tX12_nameOf (by rw [h.1 p1 hp]; exact hn) g0 g1) (fun x6 p6 => ?_)
  refine zH_eqc (rfl : x6.toInt = _) (iL (-1) (-1) rfl) (fun _ c6 => ?_) (fun _ c6 => ?_)
  · refine zH_bd (tX12_fail hC h (by decide)) (fun ν pν => ?_)
    exact zH_some ⟨pν.1, p6, fun w => absurd w pν.2.1⟩
  · refine zH_bd (tX12_pass hC h (hl b0)) (fun ν pν => ?_)
    exact zH_some ⟨pν.1, p6, fun w => ⟨b0, c6⟩⟩
theorem tX12_oneRead {C μ : gM} {p1 : Nat} {a2 : Int32} (hC : hK C) (hp : p1 ≠ 267) (hn : NOK (C p1)) (h : KL C μ) (g0 : 0 ≤ a2.toInt) (g1 : a2.toInt ≤ 2) : zH (fX12_oneRead p1 a2 μ) (fun r => KL C r.2 ∧ QName a2 r.1 ∧ ((r.2 267 6).toInt = 0 → (μ 267 6).toInt = 0 ∧ r.1.toInt ≠ -1)) := by
  unfold fX12_oneRead
  refine zH_bp (tX12_next hC h) (fun x1 μ2 p2 => ?_)
  have q2 : (μ2 267 6).toInt = (μ 267 6).toInt := p2.2.2.1
  refine zH_lt (fun μ3 e3 => ?_)
  have h3 : KL C μ3 := by rw [e3]; exact KL.up p2.1 rfl (fun e => absurd e (by decide)) (fun e => absurd e (by decide))
  have q3 : (μ3 267 6).toInt = (μ 267 6).toInt := by rw [e3, zUp_slot _ (by decide)]; exact q2
  refine zH_bd (tX12_isFine) (fun x4 p4 => ?_)
  refine zH_eqc (rfl : x4.toInt = _) (iL (0) (0) rfl) (fun _ c => ?_) (fun _ c => ?_)
  · refine zH_mono (tX12_oneRead_n26 hC hp hn h3 g0 g1 (fun w => absurd w (p4.2.2 c))) (fun r pr => ⟨pr.1, pr.2.1, fun w => ?_⟩)
    have := pr.2.2 w
    exact ⟨by omega, this.2⟩
  · refine zH_bp (tX12_isName hC h3) (fun x11 μ12 p12 => ?_)
    have q12 : (x11.toInt = 1 → (μ12 267 4).toInt + (μ12 267 11).toInt ≤ 1500) ∧ (μ12 267 6).toInt = (μ3 267 6).toInt := p12.2.2
    have b12 : x11.toInt = 0 ∨ x11.toInt = 1 := p12.2.1
    refine zH_eqc (rfl : x11.toInt = _) (iL (0) (0) rfl) (fun _ c11 => ?_) (fun _ c11 => ?_)
    · refine zH_bd (tX12_unlike hC p12.1) (fun μ13 p13 => ?_)
      have q13 : (μ13 267 6).toInt ≠ 0 := p13.2
      refine zH_mono (tX12_oneRead_n26 hC hp hn p13.1 g0 g1 (fun w => absurd w q13)) (fun r pr => ⟨pr.1, pr.2.1, fun w => absurd (pr.2.2 w).1 q13⟩)
    · refine zH_mono (tX12_oneRead_n26 hC hp hn p12.1 g0 g1 (fun w => q12.1 (by omega))) (fun r pr => ⟨pr.1, pr.2.1, fun w => ?_⟩)
      have := pr.2.2 w
      exact ⟨by omega, this.2⟩
def QNew (T : Int32) (C : gM) (s : Int32) : Int32 × gM → Prop := fun r => K T C r.2 ∧ (0 ≤ r.1.toInt ∧ r.1.toInt ≤ 7 ∧ (s.toInt = 2 → r.1.toInt ≤ 4)) ∧ ((r.2 267 6).toInt = 0 → r.1.toInt = (r.2 270 s.toNatClampNeg).toInt ∧ (s.toInt = 0 → r.1.toInt < 6))
theorem tX12_newRead_n101 {T : Int32} {C μ : gM} {y1 y2 : Int32} (h : K T C μ) (g0 : 0 ≤ y1.toInt) (g1 : y1.toInt ≤ 2) (b : 0 ≤ y2.toInt ∧ y2.toInt ≤ 7 ∧ (y1.toInt = 2 → y2.toInt ≤ 4) ∧ (y1.toInt = 0 → y2.toInt < 6)) (he : (μ 267 6).toInt = 0 → y2.toInt = (μ 270 y1.toNatClampNeg).toInt) (hl : (μ 267 6).toInt = 0 → (μ 267 4).toInt + (μ 267 11).toInt ≤ 1500) : zH (fX12_newRead_n101 y1 y2 μ) (QNew T C y1) := by
  unfold fX12_newRead_n101
  refine zH_bd (tX12_isFine) (fun x p => ?_)
  refine zH_eqc (rfl : x.toInt = _) (iL (0) (0) rfl) (fun _ c => zH_some ⟨h, ⟨show (0 : Int) ≤ 0 by decide, show (0 : Int) ≤ 7 by decide, fun _ => show (0 : Int) ≤ 4 by decide⟩, fun w => absurd w (p.2.2 c)⟩) (fun _ c => ?_)
  have b0 : (μ 267 6).toInt = 0 := p.2.1 (by have := p.1; omega)
  have q := iA (iA (iL (4) (4) rfl) (iM (iL (8) (8) rfl) (rfl : y1.toInt = _) (by omega) (by omega)) (by omega) (by omega)) (rfl : y2.toInt = _) (by omega) (by omega)
  have qi := zCl q (by omega)
  have qy := zCl (rfl : y1.toInt = _) g0
  refine zH_ck (zIn q (by omega) (by omega)) ?_
  refine zH_lt (fun μ1 e1 => ?_)
  have h1 : K T C μ1 := by
    rw [e1]
    exact h.ur (fun e => by omega) (fun e => by omega) (by omega) (fun e => by omega) (fun e e' => by omega) (fun e e' => by omega)
  have w1 : μ1 267 = μ 267 := by rw [e1]; exact zUp_ne _ (by decide)
  refine zH_bd (tX12_pass h1.hk h1.kl (by rw [w1]; exact hl b0)) (fun ν pν => ?_)
  refine zH_some ⟨h1.lex pν.1, ⟨b.1, b.2.1, b.2.2.1⟩, fun _ => ⟨?_, b.2.2.2⟩⟩
  show y2.toInt = (ν 270 y1.toNatClampNeg).toInt
  rw [pν.1.1 270 (by decide), e1, zUp_slot _ (by omega)]
  exact he b0
theorem tX12_newRead_l59 {T : Int32} {C : gM} : ∀ (n : Nat) (y1 y2 y3 y4 : Int32) (μ : gM), K T C μ → 0 ≤ y1.toInt → y1.toInt ≤ 2 → (0 ≤ y2.toInt ∧ y2.toInt ≤ 7 ∧ (y1.toInt = 2 → y2.toInt ≤ 4) ∧ (y1.toInt = 0 → y2.toInt < 6)) → ((μ 267 6).toInt = 0 → y2.toInt = (μ 270 y1.toNatClampNeg).toInt) → ((μ 267 6).toInt = 0 → (μ 267 4).toInt + (μ 267 11).toInt ≤ 1500) → 0 ≤ y4.toInt → y4.toInt ≤ 3 → 3 - y4.toInt < (n : Int) → zH (fX12_newRead_l59 n y1 y2 y3 y4 μ) (QNew T C y1) := by
  intro n
  induction n with
  | zero =>
    intro y1 y2 y3 y4 μ h g0 g1 b he hl g2 g3 gm
    exact absurd gm (by omega)
  | succ n ih =>
    intro y1 y2 y3 y4 μ h g0 g1 b he hl g2 g3 gm
    rw [fX12_newRead_l59]
    refine zH_ltc (iL (2) (2) rfl) (rfl : y4.toInt = _) (fun c => tX12_newRead_n101 h g0 g1 b he hl) (fun c => ?_)
    refine zH_bd (tX12_isFine) (fun x p => ?_)
    refine zH_ite (fun _ => tX12_newRead_n101 h g0 g1 b he hl) (fun _ => ?_)
    refine zH_bd (tX12_nameOf h.2.2.2.2.1 g2 c) (fun x6 p6 => ?_)
    refine zH_ite (fun _ => ?_) (fun _ => ?_)
    · refine zH_lt (fun x7 e7 => ?_)
      have q : x7.toInt = y4.toInt + 1 := (congrArg Int32.toInt e7).trans (iA rfl (iL (1) (1) rfl) (by omega) (by omega))
      exact ih y1 y2 y3 x7 μ h g0 g1 b he hl (by omega) (by omega) (by omega)
    · refine zH_bd (tX12_fail h.hk h.kl (by decide)) (fun ν pν => ?_)
      refine zH_lt (fun x7 e7 => ?_)
      have q : x7.toInt = y4.toInt + 1 := (congrArg Int32.toInt e7).trans (iA rfl (iL (1) (1) rfl) (by omega) (by omega))
      exact ih y1 y2 y3 x7 ν (h.lex pν.1) g0 g1 b (fun w => absurd w pν.2.1) (fun w => absurd w pν.2.1) (by omega) (by omega) (by omega)
theorem tX12_newRead_n27 {T : Int32} {C μ : gM} {y1 y2 : Int32} (h : K T C μ) (g0 : 0 ≤ y1.toInt) (g1 : y1.toInt ≤ 2) (b : (μ 267 6).toInt = 0 → 0 ≤ y2.toInt ∧ y2.toInt ≤ 7 ∧ (y1.toInt = 2 → y2.toInt ≤ 4) ∧ (y1.toInt = 0 → y2.toInt < 6)) (he : y2.toInt = (μ 270 y1.toNatClampNeg).toInt) (hl : (μ 267 6).toInt = 0 → (μ 267 4).toInt + (μ 267 11).toInt ≤ 1500) : zH (fX12_newRead_n27 y1 y2 μ) (QNew T C y1) := by
  unfold fX12_newRead_n27
  refine zH_bd (tX12_isFine) (fun x p => ?_)
  refine zH_eqc (rfl : x.toInt = _) (iL (0) (0) rfl) (fun _ c => zH_some ⟨h, ⟨show (0 : Int) ≤ 0 by decide, show (0 : Int) ≤ 7 by decide, fun _ => show (0 : Int) ≤ 4 by decide⟩, fun w => absurd w (p.2.2 c)⟩) (fun _ c => ?_)
  have b0 : (μ 267 6).toInt = 0 := p.2.1 (by have := p.1; omega)
  refine zH_bd (tX12_pass h.hk h.kl (hl b0)) (fun μ5 p5 => ?_)
  refine zH_bp (tX12_next h.hk p5.1) (fun x6 μ7 p7 => ?_)
  refine zH_bp (tX12_isName h.hk p7.1) (fun x8 μ9 p9 => ?_)
  have k9 : KL μ μ9 := p9.1
  have q9 : (x8.toInt = 0 ∨ x8.toInt = 1) ∧ (x8.toInt = 1 → (μ9 267 4).toInt + (μ9 267 11).toInt ≤ 1500) ∧ (μ9 267 6).toInt = (μ7 267 6).toInt := p9.2
  have r9 : μ9 270 = μ 270 := k9.1 270 (by decide)
  refine zH_eqc (rfl : x8.toInt = _) (iL (0) (0) rfl) (fun _ c8 => ?_) (fun _ c8 => ?_)
  · refine zH_bd (tX12_unlike h.hk k9) (fun ν pν => ?_)
    have qν : (ν 267 6).toInt ≠ 0 := pν.2
    exact tX12_newRead_l59 100000 y1 y2 x6 (0 : Int32) ν (h.lex pν.1) g0 g1 (b b0) (fun w => absurd w qν) (fun w => absurd w qν) (by decide) (by decide) (by decide)
  · exact tX12_newRead_l59 100000 y1 y2 x6 (0 : Int32) μ9 (h.lex k9) g0 g1 (b b0) (fun w => by rw [r9]; exact he) (fun w => q9.2.1 (by omega)) (by decide) (by decide) (by decide)
theorem tX12_newRead {T : Int32} {C μ : gM} {a1 : Int32} (h : K T C μ) (g0 : 0 ≤ a1.toInt) (g1 : a1.toInt ≤ 2) (hl : (μ 267 6).toInt = 0 → (μ 267 4).toInt + (μ 267 11).toInt ≤ 1500) : zH (fX12_newRead a1 μ) (QNew T C a1) := by
  unfold fX12_newRead
  have z : (0 : Int32) + a1 = a1 := Int32.zero_add _
  rw [z]
  have nc := h.2.2.2.2.1.c g0 g1
  refine zH_ck (zIn (rfl : a1.toInt = _) (by omega) (by omega)) ?_
  refine zH_lt (fun x2 e2 => ?_)
  have q2 : x2.toInt = (μ 270 a1.toNatClampNeg).toInt := congrArg Int32.toInt e2
  refine zH_bd (tX12_mostOf) (fun x3 p3 => ?_)
  have q3 : (a1.toInt = 0 → x3.toInt = 6) ∧ (a1.toInt = 1 → x3.toInt = 8) ∧ (a1.toInt = 2 → x3.toInt = 5) := p3
  refine zH_eqc (rfl : x2.toInt = _) (rfl : x3.toInt = _) (fun _ c => ?_) (fun _ c => ?_)
  · refine zH_bp (tX12_next h.hk h.kl) (fun x μ7 p7 => ?_)
    refine zH_bd (tX12_fail h.hk p7.1 (by decide)) (fun ν pν => ?_)
    have qν : (ν 267 6).toInt ≠ 0 := pν.2.1
    exact tX12_newRead_n27 (h.lex pν.1) g0 g1 (fun w => absurd w qν) (by rw [pν.1.1 270 (by decide)]; exact q2) (fun w => absurd w qν)
  · exact tX12_newRead_n27 h g0 g1 (fun _ => by omega) q2 hl
theorem tX12_namesRead {T : Int32} {C μ : gM} {a1 : Int32} (h : K T C μ) (g0 : 0 ≤ a1.toInt) (g1 : a1.toInt ≤ 1) (hl : (μ 267 6).toInt = 0 → (μ 267 4).toInt + (μ 267 11).toInt ≤ 1500) : zH (fX12_namesRead a1 μ) (fun ν => K T C ν) := by
  unfold fX12_namesRead
  refine zH_bp (tX12_newRead h g0 (by omega) hl) (fun x1 μ2 p2 => ?_)
  obtain ⟨h2, ⟨v0, v1, v2⟩, v3⟩ := p2
  have v0 : 0 ≤ x1.toInt := v0
  have v1 : x1.toInt ≤ 7 := v1
  have v3 : (μ2 267 6).toInt = 0 → x1.toInt = (μ2 270 a1.toNatClampNeg).toInt ∧ (a1.toInt = 0 → x1.toInt < 6) := v3
  refine zH_bd (tX12_isFine) (fun x p => ?_)
  refine zH_eqc (rfl : x.toInt = _) (iL (0) (0) rfl) (fun _ c => zH_some h2) (fun _ c => ?_)
  have b0 : (μ2 267 6).toInt = 0 := p.2.1 (by have := p.1; omega)
  have w := v3 b0
  rw [show (0 : Int32) + a1 = a1 from Int32.zero_add _]
  refine zH_lt (fun x4 e4 => ?_)
  rw [e4]
  have qi := zCl (rfl : a1.toInt = _) g0
  refine zH_ck (zIn (rfl : a1.toInt = _) (by omega) (by omega)) ?_
  refine zH_ck (zIn (rfl : a1.toInt = _) (by omega) (by omega)) ?_
  refine zH_lt (fun μ7 e7 => ?_)
  have qv := iA (rfl : (μ2 270 a1.toNatClampNeg).toInt = _) (iL (1) (1) rfl) (by omega) (by omega)
  refine zH_some (show K T C μ7 from ?_)
  rw [e7]
  exact h2.ur (fun e => by omega) (fun e => by omega) (by omega) (fun e => by omega) (fun e e' => by omega) (fun e e' => by omega)
theorem tX12_groupRead_n73 {T : Int32} {C μ : gM} {y1 y2 y3 y4 z0 : Int32} (h : K T C μ) (g0 : 0 ≤ y1.toInt) (g1 : y1.toInt ≤ 4) (hz : (μ 267 6).toInt = 0 → 1 ≤ z0.toInt ∧ z0.toInt ≤ 8 ∧ y1.toInt = (μ 270 2).toInt) : zH (fX12_groupRead_n73 y1 y2 y3 y4 z0 μ) (fun ν => K T C ν) := by
  unfold fX12_groupRead_n73
  refine zH_bd (tX12_isFine) (fun x p => ?_)
  refine zH_eqc (rfl : x.toInt = _) (iL (0) (0) rfl) (fun _ c => zH_some h) (fun _ c => ?_)
  obtain ⟨z1, z8, zy⟩ := hz (p.2.1 (by have := p.1; omega))
  have q28 := iA (iL (28) (28) rfl) (rfl : y1.toInt = _) (by omega) (by omega)
  have q33 := iA (iL (33) (33) rfl) (rfl : y1.toInt = _) (by omega) (by omega)
  have q38 := iA (iL (38) (38) rfl) (rfl : y1.toInt = _) (by omega) (by omega)
  have q43 := iA (iL (43) (43) rfl) (rfl : y1.toInt = _) (by omega) (by omega)
  have i28 := zCl q28 (by omega)
  have i33 := zCl q33 (by omega)
  have i38 := zCl q38 (by omega)
  have i43 := zCl q43 (by omega)
  refine zH_ck (zIn q28 (by omega) (by omega)) ?_
  refine zH_lt (fun μ1 e1 => ?_)
  have h1 : K T C μ1 := by rw [e1]; exact h.ur (fun e => by omega) (fun e => by omega) (by omega) (fun e => by omega) (fun e e' => by omega) (fun e e' => by omega)
  refine zH_ck (zIn q33 (by omega) (by omega)) ?_
  refine zH_lt (fun μ2 e2 => ?_)
  have h2 : K T C μ2 := by rw [e2]; exact h1.ur (fun e => by omega) (fun e => by omega) (by omega) (fun e => by omega) (fun e e' => by omega) (fun e e' => by omega)
  refine zH_bd (tX12_flag) (fun x17 p17 => ?_)
  refine zH_ck (zIn q38 (by omega) (by omega)) ?_
  refine zH_lt (fun μ3 e3 => ?_)
  have h3 : K T C μ3 := by rw [e3]; exact h2.ur (fun e => by omega) (fun e => by omega) (by omega) (fun e => by omega) (fun e e' => by omega) (fun e e' => by omega)
  refine zH_ck (zIn q43 (by omega) (by omega)) ?_
  refine zH_lt (fun μ4 e4 => ?_)
  have h4 : K T C μ4 := by rw [e4]; exact h3.ur (fun e => by omega) (fun e => by omega) (by omega) (fun e => by omega) (fun e e' => ⟨z1, z8⟩) (fun e e' => by omega)
  refine zH_lt (fun μ5 e5 => ?_)
  refine zH_some (show K T C μ5 from ?_)
  rw [e5]
  have w4 : μ4 270 2 = μ 270 2 := by rw [e4, zUp_slot _ (by omega), e3, zUp_slot _ (by omega), e2, zUp_slot _ (by omega), e1, zUp_slot _ (by omega)]
  obtain ⟨k, hk⟩ : ∃ k : Nat, y1.toInt = k := ⟨y1.toInt.toNat, by omega⟩
  refine h4.ur2 (k := k) (by omega) (by rw [w4]; omega) ?_
  rw [e4, show 43 + k = ((43 : Int32) + y1).toNatClampNeg by omega, zUp_same]
  exact z1
theorem tX12_groupRead_n53 {T : Int32} {C μ : gM} {y1 y2 y3 y4 : Int32} (h : K T C μ) (g0 : 0 ≤ y1.toInt) (g1 : y1.toInt ≤ 4) (hz : (μ 267 6).toInt = 0 → y1.toInt = (μ 270 2).toInt) : zH (fX12_groupRead_n53 y1 y2 y3 y4 μ) (fun ν => K T C ν) := by
  unfold fX12_groupRead_n53
  refine zH_bp (tX12_takes h.hk h.kl) (fun x10 μ11 p11 => ?_)
  have k11 : KL μ μ11 := p11.1
  have q11 : (μ11 267 6).toInt = (μ 267 6).toInt := p11.2.2
  refine zH_ite (fun _ => ?_) (fun _ => ?_)
  · refine tX12_groupRead_n73 (h.lex k11) g0 g1 (fun w => ⟨by decide, by decide, ?_⟩)
    rw [k11.1 270 (by decide)]; exact hz (by omega)
  · refine zH_bp (tX12_number h.hk k11) (fun x24 μ25 p25 => ?_)
    have k25 : KL μ μ25 := p25.1
    have q25 : (μ25 267 6).toInt = 0 → (μ11 267 6).toInt = 0 ∧ (1 : Int32).toInt ≤ x24.toInt ∧ x24.toInt ≤ (8 : Int32).toInt := p25.2
    refine tX12_groupRead_n73 (h.lex k25) g0 g1 (fun w => ?_)
    obtain ⟨w1, w2, w3⟩ := q25 w
    refine ⟨w2, w3, ?_⟩
    rw [k25.1 270 (by decide)]; exact hz (by omega)
theorem tX12_groupRead {T : Int32} {C μ : gM} (h : K T C μ) (hl : (μ 267 6).toInt = 0 → (μ 267 4).toInt + (μ 267 11).toInt ≤ 1500) : zH (fX12_groupRead μ) (fun ν => K T C ν) := by
  unfold fX12_groupRead
  refine zH_bp (tX12_newRead h (by decide) (by decide) hl) (fun x1 μ2 p2 => ?_)
  obtain ⟨h2, ⟨v0, v1, v2⟩, v3⟩ := p2
  have v0 : 0 ≤ x1.toInt := v0
  have v2 : x1.toInt ≤ 4 := v2 rfl
  have v3 : (μ2 267 6).toInt = 0 → x1.toInt = (μ2 270 2).toInt := fun w => (v3 w).1
  refine zH_bd (tX12_asks h2.hk h2.kl) (fun μ3 p3 => ?_)
  have q3 : (μ3 267 6).toInt = 0 → (μ2 267 6).toInt = 0 := p3.2
  refine zH_bp (tX12_number h2.hk p3.1) (fun x4 μ5 p5 => ?_)
  have q5 : (μ5 267 6).toInt = 0 → (μ3 267 6).toInt = 0 := fun w => (p5.2 w).1
  refine zH_bp (tX12_takes h2.hk p5.1) (fun x6 μ7 p7 => ?_)
  have q7 : (μ7 267 6).toInt = (μ5 267 6).toInt := p7.2.2
  refine zH_ite (fun _ => ?_) (fun _ => ?_)
  · refine zH_bp (tX12_takes h2.hk p7.1) (fun x8 μ9 p9 => ?_)
    have q9 : (μ9 267 6).toInt = (μ7 267 6).toInt := p9.2.2
    have k9 : KL μ2 μ9 := p9.1
    exact tX12_groupRead_n53 (h2.lex k9) v0 v2 (fun w => by rw [k9.1 270 (by decide)]; exact v3 (q3 (q5 (by omega))))
  · refine zH_bp (tX12_number h2.hk p7.1) (fun x8 μ9 p9 => ?_)
    have q9 : (μ9 267 6).toInt = 0 → (μ7 267 6).toInt = 0 := fun w => (p9.2 w).1
    have k9 : KL μ2 μ9 := p9.1
    exact tX12_groupRead_n53 (h2.lex k9) v0 v2 (fun w => by rw [k9.1 270 (by decide)]; exact v3 (q3 (q5 (by have := q9 w; omega))))
theorem or63_dec : ∀ n : Fin 64, ∀ b : Fin 6, (Int32.ofNat n.val ||| ((1 : Int32) <<< (Int32.ofNat b.val &&& 31))).toInt ≤ 63 ∧ 0 ≤ (Int32.ofNat n.val ||| ((1 : Int32) <<< (Int32.ofNat b.val &&& 31))).toInt := by decide +kernel
theorem i32_nat {x : Int32} {N : Nat} (h0 : 0 ≤ x.toInt) (h1 : x.toInt < N) (hN : N < 2 ^ 31) : ∃ n : Fin N, x = Int32.ofNat n.val := by
  refine ⟨⟨x.toInt.toNat, by omega⟩, ?_⟩
  apply Int32.toInt_inj.mp
  show x.toInt = (Int32.ofNat x.toInt.toNat).toInt
  have := nI_toInt (n := x.toInt.toNat) (by omega)
  have e : (Int32.ofNat x.toInt.toNat).toInt = ((x.toInt.toNat : Nat) : Int) := this
  omega
theorem or63 {x b : Int32} (h0 : 0 ≤ x.toInt) (h1 : x.toInt ≤ 63) (b0 : 0 ≤ b.toInt) (b1 : b.toInt ≤ 5) : 0 ≤ (x ||| ((1 : Int32) <<< (b &&& 31))).toInt ∧ (x ||| ((1 : Int32) <<< (b &&& 31))).toInt ≤ 63 := by
  obtain ⟨n, rfl⟩ := i32_nat (N := 64) h0 (by omega) (by decide)
  obtain ⟨m, rfl⟩ := i32_nat (N := 6) b0 (by omega) (by decide)
  exact ⟨(or63_dec n m).2, (or63_dec n m).1⟩
theorem tX12_memberRead_n101 {T : Int32} {C μ : gM} {y1 y3 y4 z0 : Int32} (h : K T C μ) (hz : (μ 267 6).toInt = 0 → (0 ≤ y1.toInt ∧ y1.toInt ≤ 5) ∧ 0 ≤ y3.toInt ∧ y3.toInt ≤ 4) : zH (fX12_memberRead_n101 y1 y3 y4 z0 μ) (fun ν => K T C ν) := by
  unfold fX12_memberRead_n101
  refine zH_bd (tX12_isFine) (fun x p => ?_)
  refine zH_eqc (rfl : x.toInt = _) (iL (0) (0) rfl) (fun _ c => zH_some h) (fun _ c => ?_)
  obtain ⟨⟨a0, a1⟩, b0, b1⟩ := hz (p.2.1 (by have := p.1; omega))
  have q48 := iA (iL (48) (48) rfl) (rfl : y3.toInt = _) (by omega) (by omega)
  refine zH_lt (fun x15 e15 => ?_)
  have q15 : x15.toInt = 48 + y3.toInt := (congrArg Int32.toInt e15).trans q48
  have i15 := zCl q15 (by omega)
  refine zH_ck (zIn q15 (by omega) (by omega)) ?_
  refine zH_ck (zIn q15 (by omega) (by omega)) ?_
  refine zH_lt (fun μ1 e1 => ?_)
  have hm : 0 ≤ (μ 270 x15.toNatClampNeg).toInt ∧ (μ 270 x15.toNatClampNeg).toInt ≤ 63 := by
    have := h.2.2.2.2.1.2.2.2.2.2 (y3.toInt.toNat) (by omega)
    rw [show x15.toNatClampNeg = 48 + y3.toInt.toNat by omega]
    exact this
  have ho := or63 hm.1 hm.2 a0 a1
  have h1 : K T C μ1 := by rw [e1]; exact h.ur (fun e => by omega) (fun e => by omega) (by omega) (fun e => by omega) (fun e e' => by omega) (fun e e' => ho)
  refine zH_bd (tX12_of b0 b1 (by omega) (by omega)) (fun x19 p19 => ?_)
  have q19 : x19.toInt = 6 * y3.toInt + y1.toInt := p19
  have q53 := iA (iL (53) (53) rfl) (rfl : x19.toInt = _) (by omega) (by omega)
  have i53 := zCl q53 (by omega)
  refine zH_ck (zIn q53 (by omega) (by omega)) ?_
  refine zH_lt (fun μ2 e2 => ?_)
  have h2 : K T C μ2 := by rw [e2]; exact h1.ur (fun e => by omega) (fun e => by omega) (by omega) (fun e => by omega) (fun e e' => by omega) (fun e e' => by omega)
  refine zH_bd (tX12_of b0 b1 (by omega) (by omega)) (fun x22 p22 => ?_)
  have q22 : x22.toInt = 6 * y3.toInt + y1.toInt := p22
  have q83 := iA (iL (83) (83) rfl) (rfl : x22.toInt = _) (by omega) (by omega)
  have i83 := zCl q83 (by omega)
  refine zH_ck (zIn q83 (by omega) (by omega)) ?_
  refine zH_lt (fun μ3 e3 => ?_)
  refine zH_some (show K T C μ3 from ?_)
  rw [e3]
  exact h2.ur (fun e => by omega) (fun e => by omega) (by omega) (fun e => by omega) (fun e e' => by omega) (fun e e' => by omega)
theorem tX12_memberRead_n65 {T : Int32} {C μ : gM} {y1 y3 : Int32} (h : K T C μ) (hz : (μ 267 6).toInt = 0 → (0 ≤ y1.toInt ∧ y1.toInt ≤ 5) ∧ 0 ≤ y3.toInt ∧ y3.toInt ≤ 4) : zH (fX12_memberRead_n65 y1 y3 μ) (fun ν => K T C ν) := by
  unfold fX12_memberRead_n65
  refine zH_bd (tX12_asks h.hk h.kl) (fun μ9 p9 => ?_)
  have q9 : (μ9 267 6).toInt = 0 → (μ 267 6).toInt = 0 := p9.2
  refine zH_bp (tX12_number h.hk p9.1) (fun x10 μ11 p11 => ?_)
  have q11 : (μ11 267 6).toInt = 0 → (μ9 267 6).toInt = 0 := fun w => (p11.2 w).1
  refine zH_bp (tX12_takes h.hk p11.1) (fun x12 μ13 p13 => ?_)
  have q13 : (μ13 267 6).toInt = (μ11 267 6).toInt := p13.2.2
  refine zH_ite (fun _ => ?_) (fun _ => ?_)
  · exact tX12_memberRead_n101 (h.lex p13.1) (fun w => hz (q9 (q11 (by omega))))
  · refine zH_bp (tX12_number h.hk p13.1) (fun x26 μ27 p27 => ?_)
    have q27 : (μ27 267 6).toInt = 0 → (μ13 267 6).toInt = 0 := fun w => (p27.2 w).1
    exact tX12_memberRead_n101 (h.lex p27.1) (fun w => hz (q9 (q11 (by have := q27 w; omega))))
theorem tX12_memberRead {T : Int32} {C μ : gM} (h : K T C μ) (hl : (μ 267 4).toInt + (μ 267 11).toInt ≤ 1500) : zH (fX12_memberRead μ) (fun ν => K T C ν) := by
  have hn := h.2.2.2.2.1
  unfold fX12_memberRead
  refine zH_bd (tX12_pass h.hk h.kl hl) (fun μ1 p1 => ?_)
  refine zH_bp (tX12_oneRead h.hk (by decide) hn p1.1 (by decide) (by decide)) (fun x2 μ3 p3 => ?_)
  have n3 : QName 0 x2 := p3.2.1
  have q3 : (μ3 267 6).toInt = 0 → x2.toInt ≠ -1 := fun w => (p3.2.2 w).2
  refine zH_lt (fun x4 e4 => ?_)
  refine zH_bd (tX12_asks h.hk p3.1) (fun μ5 p5 => ?_)
  have q5 : (μ5 267 6).toInt = 0 → (μ3 267 6).toInt = 0 := p5.2
  refine zH_bp (tX12_oneRead h.hk (by decide) hn p5.1 (by decide) (by decide)) (fun x6 μ7 p7 => ?_)
  have n7 : QName 2 x6 := p7.2.1
  have q7 : (μ7 267 6).toInt = 0 → (μ5 267 6).toInt = 0 ∧ x6.toInt ≠ -1 := p7.2.2
  have hz : (μ7 267 6).toInt = 0 → (0 ≤ x2.toInt ∧ x2.toInt ≤ 5) ∧ 0 ≤ x6.toInt ∧ x6.toInt ≤ 4 := fun w => by
    have w7 := q7 w
    have w3 := q3 (q5 w7.1)
    rcases n3 with a | a
    · exact absurd a w3
    rcases n7 with b | b
    · exact absurd b w7.2
    have a3 := a.2.2.1 rfl
    have b3 := b.2.2.2 rfl
    omega
  refine zH_bd (tX12_isFine) (fun x8 p8 => ?_)
  refine zH_eqc (rfl : x8.toInt = _) (iL (0) (0) rfl) (fun _ c => ?_) (fun _ c => ?_)
  · exact tX12_memberRead_n65 (h.lex p7.1) hz
  · have b0 : (μ7 267 6).toInt = 0 := p8.2.1 (by have := p8.1; omega)
    have w := hz b0
    refine zH_ck (zIn (iA (iL (48) (48) rfl) (rfl : x6.toInt = _) (by omega) (by omega)) (by omega) (by omega)) ?_
    refine zH_bd (tX12_isOf) (fun x30 p30 => ?_)
    refine zH_ite (fun _ => ?_) (fun _ => ?_)
    · exact tX12_memberRead_n65 (h.lex p7.1) hz
    · refine zH_bd (tX12_fail h.hk p7.1 (by decide)) (fun ν pν => ?_)
      exact tX12_memberRead_n65 (h.lex pν.1) (fun w => absurd w pν.2.1)
theorem tX12_isTrack_l3 {T : Int32} {C : gM} : ∀ (n : Nat) (y1 y2 y3 y4 : Int32) (μ : gM), K T C μ → 0 ≤ y4.toInt → y4.toInt ≤ 24 → 24 - y4.toInt < (n : Int) → zH (fX12_isTrack_l3 n y1 y2 y3 y4 μ) (fun _ => True) := by
  intro n
  induction n with
  | zero =>
    intro y1 y2 y3 y4 μ h g0 g1 gm
    exact absurd gm (by omega)
  | succ n ih =>
    intro y1 y2 y3 y4 μ h g0 g1 gm
    rw [fX12_isTrack_l3]
    have f : 0 ≤ (μ 270 3).toInt ∧ (μ 270 3).toInt ≤ 24 := h.2.2.2.2.1.2.2.2.1
    refine zH_lec (rfl : (μ 270 3).toInt = _) (rfl : y4.toInt = _) (fun c => zH_some trivial) (fun c => ?_)
    have q := iA (iL (113) (113) rfl) (iM (iL (4) (4) rfl) (rfl : y4.toInt = _) (by omega) (by omega)) (by omega) (by omega)
    have q4 := iA (rfl : y4.toInt = _) (iL (1) (1) rfl) (by omega) (by omega)
    refine zH_ck (zIn q (by omega) (by omega)) ?_
    refine zH_ite (fun _ => ?_) (fun _ => zH_lt (fun x e => ih y1 y2 y3 x μ h (by rw [e]; omega) (by rw [e]; omega) (by rw [e]; omega)))
    refine zH_ck (zIn (iA q (iL (1) (1) rfl) (by omega) (by omega)) (by omega) (by omega)) ?_
    refine zH_ite (fun _ => ?_) (fun _ => zH_lt (fun x e => ih y1 y2 y3 x μ h (by rw [e]; omega) (by rw [e]; omega) (by rw [e]; omega)))
    refine zH_ck (zIn (iA q (iL (2) (2) rfl) (by omega) (by omega)) (by omega) (by omega)) ?_
    refine zH_ite (fun _ => zH_some trivial) (fun _ => zH_lt (fun x e => ih y1 y2 y3 x μ h (by rw [e]; omega) (by rw [e]; omega) (by rw [e]; omega)))
theorem tX12_isTrack {T : Int32} {C μ : gM} {a1 a2 a3 : Int32} (h : K T C μ) : zH (fX12_isTrack a1 a2 a3 μ) (fun _ => True) := by
  unfold fX12_isTrack
  exact tX12_isTrack_l3 100000 a1 a2 a3 (0 : Int32) μ h (by decide) (by decide) (by decide)
theorem tX12_trackRead_n138 {T : Int32} {C μ : gM} {y1 y2 y3 y4 : Int32} (h : K T C μ) (g0 : 0 ≤ y1.toInt) (g1 : y1.toInt ≤ 23) (he : (μ 270 3).toInt = y1.toInt) : zH (fX12_trackRead_n138 y1 y2 y3 y4 μ) (fun ν => K T C ν) := by
  unfold fX12_trackRead_n138
  refine zH_bd (tX12_asks h.hk h.kl) (fun μ14 p14 => ?_)
  refine zH_bp (tX12_number h.hk p14.1) (fun x15 μ16 p16 => ?_)
  have k16 : KL μ μ16 := p16.1
  have h16 := h.lex k16
  refine zH_bd (tX12_isFine) (fun x p => ?_)
  refine zH_ite (fun _ => zH_some h16) (fun _ => ?_)
  have q := iA (iL (113) (113) rfl) (iM (iL (4) (4) rfl) (rfl : y1.toInt = _) (by omega) (by omega)) (by omega) (by omega)
  have q1 := iA q (iL (1) (1) rfl) (by omega) (by omega)
  have q2 := iA q (iL (2) (2) rfl) (by omega) (by omega)
  have q3 := iA q (iL (3) (3) rfl) (by omega) (by omega)
  have i0 := zCl q (by omega)
  have i1 := zCl q1 (by omega)
  have i2 := zCl q2 (by omega)
  have i3 := zCl q3 (by omega)
  refine zH_ck (zIn q (by omega) (by omega)) ?_
  refine zH_lt (fun μ1 e1 => ?_)
  have h1 : K T C μ1 := by rw [e1]; exact h16.ur (fun e => by omega) (fun e => by omega) (by omega) (fun e => by omega) (fun e e' => by omega) (fun e e' => by omega)
  refine zH_ck (zIn q1 (by omega) (by omega)) ?_
  refine zH_lt (fun μ2 e2 => ?_)
  have h2 : K T C μ2 := by rw [e2]; exact h1.ur (fun e => by omega) (fun e => by omega) (by omega) (fun e => by omega) (fun e e' => by omega) (fun e e' => by omega)
  refine zH_ck (zIn q2 (by omega) (by omega)) ?_
  refine zH_lt (fun μ3 e3 => ?_)
  have h3 : K T C μ3 := by rw [e3]; exact h2.ur (fun e => by omega) (fun e => by omega) (by omega) (fun e => by omega) (fun e e' => by omega) (fun e e' => by omega)
  refine zH_ck (zIn q3 (by omega) (by omega)) ?_
  refine zH_lt (fun μ4 e4 => ?_)
  have h4 : K T C μ4 := by rw [e4]; exact h3.ur (fun e => by omega) (fun e => by omega) (by omega) (fun e => by omega) (fun e e' => by omega) (fun e e' => by omega)
  refine zH_lt (fun μ5 e5 => ?_)
  refine zH_some (show K T C μ5 from ?_)
  have w4 : (μ4 270 3).toInt = y1.toInt := by rw [e4, zUp_slot _ (by omega), e3, zUp_slot _ (by omega), e2, zUp_slot _ (by omega), e1, zUp_slot _ (by omega), k16.1 270 (by decide)]; exact he
  have qv := iA w4 (iL (1) (1) rfl) (by omega) (by omega)
  rw [e5]
  exact h4.ur (fun e => by omega) (fun e => by omega) (by omega) (fun e => by omega) (fun e e' => by omega) (fun e e' => by omega)
theorem tX12_trackRead_n94 {T : Int32} {C μ : gM} {y1 y2 y3 : Int32} (h : K T C μ) (g0 : 0 ≤ y1.toInt) (g1 : y1.toInt ≤ 23) (he : (μ 270 3).toInt = y1.toInt) : zH (fX12_trackRead_n94 y1 y2 y3 μ) (fun ν => K T C ν) := by
  unfold fX12_trackRead_n94
  refine zH_bd (tX12_asks h.hk h.kl) (fun μ10 p10 => ?_)
  refine zH_bp (tX12_oneRead h.hk (by decide) h.2.2.2.2.1 p10.1 (by decide) (by decide)) (fun x11 μ12 p12 => ?_)
  have k12 : KL μ μ12 := p12.1
  have e12 : (μ12 270 3).toInt = y1.toInt := by rw [k12.1 270 (by decide)]; exact he
  refine zH_bd (tX12_isFine) (fun x p => ?_)
  refine zH_ite (fun _ => tX12_trackRead_n138 (h.lex k12) g0 g1 e12) (fun _ => ?_)
  refine zH_bd (tX12_isTrack (h.lex k12)) (fun x28 p28 => ?_)
  refine zH_ite (fun _ => tX12_trackRead_n138 (h.lex k12) g0 g1 e12) (fun _ => ?_)
  refine zH_bd (tX12_fail h.hk k12 (by decide)) (fun ν pν => ?_)
  have kν : KL μ ν := pν.1
  exact tX12_trackRead_n138 (h.lex kν) g0 g1 (by rw [kν.1 270 (by decide)]; exact he)
theorem tX12_trackRead_n23 {T : Int32} {C μ : gM} {y1 : Int32} (h : K T C μ) (g : (μ 267 6).toInt = 0 → 0 ≤ y1.toInt ∧ y1.toInt ≤ 23 ∧ (μ 267 4).toInt + (μ 267 11).toInt ≤ 1500) (he : (μ 270 3).toInt = y1.toInt) : zH (fX12_trackRead_n23 y1 μ) (fun ν => K T C ν) := by
  have hn := h.2.2.2.2.1
  unfold fX12_trackRead_n23
  refine zH_bd (tX12_isFine) (fun x p => ?_)
  refine zH_eqc (rfl : x.toInt = _) (iL (0) (0) rfl) (fun _ c => zH_some h) (fun _ c => ?_)
  obtain ⟨g0, g1, hl⟩ := g (p.2.1 (by have := p.1; omega))
  refine zH_bd (tX12_pass h.hk h.kl hl) (fun μ1 p1 => ?_)
  refine zH_bp (tX12_oneRead h.hk (by decide) hn p1.1 (by decide) (by decide)) (fun x4 μ5 p5 => ?_)
  refine zH_bd (tX12_asks h.hk p5.1) (fun μ6 p6 => ?_)
  refine zH_bp (tX12_oneRead h.hk (by decide) hn p6.1 (by decide) (by decide)) (fun x7 μ8 p8 => ?_)
  have k8 : KL μ μ8 := p8.1
  have n8 : QName 2 x7 := p8.2.1
  have q8 : (μ8 267 6).toInt = 0 → x7.toInt ≠ -1 := fun w => (p8.2.2 w).2
  have e8 : (μ8 270 3).toInt = y1.toInt := by rw [k8.1 270 (by decide)]; exact he
  refine zH_bd (tX12_isFine) (fun x9 p9 => ?_)
  refine zH_eqc (rfl : x9.toInt = _) (iL (0) (0) rfl) (fun _ c9 => tX12_trackRead_n94 (h.lex k8) g0 g1 e8) (fun _ c9 => ?_)
  have w := q8 (p9.2.1 (by have := p9.1; omega))
  have b : 0 ≤ x7.toInt ∧ x7.toInt ≤ 4 := by
    rcases n8 with b | b
    · exact absurd b w
    have b3 := b.2.2.2 rfl
    omega
  refine zH_ck (zIn (iA (iL (48) (48) rfl) (rfl : x7.toInt = _) (by omega) (by omega)) (by omega) (by omega)) ?_
  refine zH_bd (tX12_isOf) (fun x30 p30 => ?_)
  refine zH_ite (fun _ => ?_) (fun _ => tX12_trackRead_n94 (h.lex k8) g0 g1 e8)
  refine zH_bd (tX12_fail h.hk k8 (by decide)) (fun ν pν => ?_)
  have kν : KL μ ν := pν.1
  exact tX12_trackRead_n94 (h.lex kν) g0 g1 (by rw [kν.1 270 (by decide)]; exact he)
theorem tX12_trackRead {T : Int32} {C μ : gM} (h : K T C μ) (hl : (μ 267 4).toInt + (μ 267 11).toInt ≤ 1500) : zH (fX12_trackRead μ) (fun ν => K T C ν) := by
  unfold fX12_trackRead
  have f : 0 ≤ (μ 270 3).toInt ∧ (μ 270 3).toInt ≤ 24 := h.2.2.2.2.1.2.2.2.1
  refine zH_lt (fun x1 e1 => ?_)
  have q1 : (μ 270 3).toInt = x1.toInt := (congrArg Int32.toInt e1).symm
  refine zH_eqc (rfl : x1.toInt = _) (iL (24) (24) rfl) (fun _ c => ?_) (fun _ c => ?_)
  · refine zH_bp (tX12_next h.hk h.kl) (fun x μ7 p7 => ?_)
    refine zH_bd (tX12_fail h.hk p7.1 (by decide)) (fun ν pν => ?_)
    have kν : KL μ ν := pν.1
    exact tX12_trackRead_n23 (h.lex kν) (fun w => absurd w pν.2.1) (by rw [kν.1 270 (by decide)]; exact q1)
  · exact tX12_trackRead_n23 h (fun _ => ⟨by omega, by omega, hl⟩) q1
theorem tX12_statement_n58 {T : Int32} {C μ : gM} (h : K T C μ) : zH (fX12_statement_n58 μ) (fun ν => K T C ν) := by
  unfold fX12_statement_n58
  refine zH_bd (tX12_needsSign h.hk h.kl) (fun ν pν => ?_)
  exact zH_some (h.lex pν.1)
theorem tX12_statement {T : Int32} {C μ : gM} (h : K T C μ) : zH (fX12_statement μ) (fun ν => K T C ν) := by
  unfold fX12_statement
  refine zH_bp (tX12_statementHere h.hk h.kl) (fun x1 μ2 p2 => ?_)
  have h2 := h.lex p2.1
  have q2 : (-1 : Int) ≤ x1.toInt ∧ x1.toInt ≤ 4 ∧ (x1.toInt ≠ -1 → (μ2 267 4).toInt + (μ2 267 11).toInt ≤ 1500) ∧ (μ2 267 6).toInt = (μ 267 6).toInt := p2.2
  refine zH_eqc (rfl : x1.toInt = _) (iL (-1) (-1) rfl) (fun _ c => ?_) (fun _ c => ?_)
  · refine zH_bd (tX12_unlike h2.hk h2.kl) (fun ν pν => ?_)
    exact tX12_statement_n58 (h2.lex pν.1)
  · have hl := q2.2.2.1 c
    refine zH_eqc (rfl : x1.toInt = _) (iL (2) (2) rfl) (fun _ c2 => ?_) (fun _ c2 => ?_)
    · exact zH_bd (tX12_groupRead h2 (fun _ => hl)) (fun ν hν => tX12_statement_n58 hν)
    · refine zH_lec (iL (2) (2) rfl) (rfl : x1.toInt = _) (fun c3 => ?_) (fun c3 => ?_)
      · refine zH_ite (fun _ => ?_) (fun _ => ?_)
        · exact zH_bd (tX12_memberRead h2 hl) (fun ν hν => tX12_statement_n58 hν)
        · exact zH_bd (tX12_trackRead h2 hl) (fun ν hν => tX12_statement_n58 hν)
      · exact zH_bd (tX12_namesRead h2 (by omega) (by omega) (fun _ => hl)) (fun ν hν => tX12_statement_n58 hν)
