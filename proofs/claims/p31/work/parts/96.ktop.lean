/-! net -/
theorem K.st {T : Int32} {C μ : gM} (h : K T C μ) {v : Int32} (h0 : 0 ≤ v.toInt) (h1 : v.toInt ≤ 1500) : K v C (gUp μ 267 2 v) := by
  obtain ⟨g1, g2, ⟨b1, b2, b3, b4⟩, g4⟩ := h
  refine ⟨⟨fun a ha => by rw [zUp_ne _ (by omega)]; exact g1.1 a ha, by rw [zUp_slot _ (by decide)]; exact g1.2.1, by rw [zUp_slot _ (by decide)]; exact g1.2.2.1, by rw [zUp_slot _ (by decide)]; exact g1.2.2.2⟩, ⟨zUp_same _ _ _ _, h0, h1⟩, ⟨?_, ?_, ?_, ?_⟩, ?_⟩
  · rw [zUp_slot _ (by decide)]; exact b1
  · rw [zUp_slot _ (by decide)]; exact b2
  · rw [zUp_slot _ (by decide)]; exact b3
  · rw [zUp_slot _ (by decide)]; exact b4
  · unfold KR at *
    rw [zUp_ne _ (by decide), zUp_ne _ (by decide), zUp_ne _ (by decide), zUp_ne _ (by decide), zUp_ne _ (by decide)]
    exact g4
theorem tX12_begins {T : Int32} {C μ : gM} (h : K T C μ) : zH (fX12_begins μ) (fun ν => K 0 C ν ∧ (ν 267 6).toInt = 0) := by
  unfold fX12_begins
  refine zH_lt (fun μ1 e1 => ?_)
  have h1 : K T C μ1 := by rw [e1, h.2.1.1]; exact h.u267 (by decide) (fun _ => h.2.1.2) (fun e => absurd e (by decide))
  refine zH_lt (fun μ2 e2 => ?_)
  have h2 : K 0 C μ2 := by rw [e2]; exact h1.st (by decide) (by decide)
  refine zH_lt (fun μ3 e3 => ?_)
  have h3 : K 0 C μ3 := by rw [e3]; exact h2.u267 (by decide) (fun _ => ⟨by decide, by decide⟩) (fun e => absurd e (by decide))
  refine zH_lt (fun μ4 e4 => ?_)
  have h4 : K 0 C μ4 := by rw [e4]; exact h3.u267 (by decide) (fun e => absurd e (by decide)) (fun e => absurd e (by decide))
  refine zH_lt (fun μ5 e5 => ?_)
  have h5 : K 0 C μ5 := by rw [e5]; exact h4.u267 (by decide) (fun e => absurd e (by decide)) (fun e => absurd e (by decide))
  refine zH_lt (fun μ6 e6 => ?_)
  have h6 : K 0 C μ6 := by rw [e6]; exact h5.u267 (by decide) (fun e => absurd e (by decide)) (fun e => absurd e (by decide))
  refine zH_some ⟨h6, ?_⟩
  rw [e6, zUp_slot _ (by decide), e5, zUp_same]
  rfl
theorem net_l103 {Q : Int32 × gM → Prop} : ∀ (n : Nat) (y1 : Int32) (k : Nat) (μ : gM), y1.toInt = k → k ≤ 209 → 209 < k + n → (∀ ν : gM, (∀ a, a ≠ 269 → ν a = μ a) → (∀ j, ν 269 j = if k ≤ j ∧ j < 209 then μ 270 j else μ 269 j) → zH (zLt (gUp ν 267 15 (1 : Int32)) (fun μ6 => zLt (gUp μ6 267 20 (0 : Int32)) (fun μ7 => zLt (gUp μ7 274 0 (0 : Int32)) (fun μ8 => zLt (gUp μ8 274 1 (0 : Int32)) (fun μ9 => zBd (fX12_starts μ9) (fun μ10 => (some ((μ10 269 2), μ10)))))))) Q) → zH (fX12_net_l103 n y1 μ) Q := by
  intro n
  induction n with
  | zero =>
    intro y1 k μ h1 h2 gm
    exact absurd gm (by omega)
  | succ n ih =>
    intro y1 k μ h1 h2 gm hk
    rw [fX12_net_l103]
    refine zH_lec (iL (209) (209) rfl) h1 (fun c => hk μ (fun _ _ => rfl) (fun j => by rw [if_neg (by omega)])) (fun c => ?_)
    have i0 := zCl h1 (by omega)
    refine zH_ck (zIn h1 (by omega) (by omega)) ?_
    refine zH_ck (zIn h1 (by omega) (by omega)) ?_
    refine zH_lt (fun μ6 e6 => ?_)
    refine zH_lt (fun x7 e7 => ?_)
    have q7 : x7.toInt = ((k + 1 : Nat) : Int) := (congrArg Int32.toInt e7).trans ((iA h1 (iL (1) (1) rfl) (by omega) (by omega)).trans (by omega))
    refine ih x7 (k + 1) μ6 q7 (by omega) (by omega) (fun ν hν hj => ?_)
    refine hk ν (fun a ha => by rw [hν a ha, e6, zUp_ne _ ha]) (fun j => ?_)
    rw [hj j]
    have w : μ6 270 = μ 270 := by rw [e6]; exact zUp_ne _ (by decide)
    rw [w]
    by_cases ej : j = k
    · rw [if_neg (by omega), if_pos (by omega), e6, show j = y1.toNatClampNeg by omega, zUp_same]
    · have w1 : μ6 269 j = μ 269 j := by rw [e6, zUp_slot _ (by omega)]
      rw [w1]
      by_cases c1 : k + 1 ≤ j ∧ j < 209
      · rw [if_pos c1, if_pos (by omega)]
      · rw [if_neg c1, if_neg (by omega)]
theorem NOK.eq {f g : Nat → Int32} (h : NOK f) (e : ∀ j, j < 209 → g j = f j) : NOK g := by
  unfold NOK at *
  rw [e 0 (by decide), e 1 (by decide), e 2 (by decide), e 3 (by decide)]
  refine ⟨h.1, h.2.1, h.2.2.1, h.2.2.2.1, fun k hk => ?_, fun k hk => ?_⟩
  · rw [e (43 + k) (by omega)]; exact h.2.2.2.2.1 k hk
  · rw [e (48 + k) (by omega)]; exact h.2.2.2.2.2 k hk
/-- the frame told anew -/
theorem K.self {T : Int32} {C μ : gM} (h : K T C μ) : K T μ μ := ⟨⟨fun _ _ => rfl, rfl, rfl, rfl⟩, h.2⟩
theorem K.re {T : Int32} {C D μ : gM} (h : K T C μ) (e : KF D μ) : K T D μ := ⟨e, h.2⟩
def RdQ (μ : gM) (r : Int32 × gM) : Prop := (∀ a, a ≠ 267 → r.2 a = μ a) ∧ (∀ i, i ≠ 8 → i ≠ 9 → r.2 267 i = μ 267 i) ∧ r.2 267 8 = μ 267 6 ∧ ((μ 267 6).toInt = 0 → r.1 = 1 ∧ r.2 267 9 = -1) ∧ ((μ 267 6).toInt ≠ 0 → r.1 = 0 ∧ r.2 267 9 = μ 267 7)
theorem sX12_isRead {μ : gM} : zH (fX12_isRead μ) (RdQ μ) := by
  unfold fX12_isRead
  refine zH_lt (fun μ1 e1 => ?_)
  have w1 : μ1 267 6 = μ 267 6 := by rw [e1, zUp_slot _ (by decide)]
  have w7 : μ1 267 7 = μ 267 7 := by rw [e1, zUp_slot _ (by decide)]
  have fin : ∀ (z : Int32) (ν : gM), ν = gUp μ1 267 9 z → (∀ a, a ≠ 267 → ν a = μ a) ∧ (∀ i, i ≠ 8 → i ≠ 9 → ν 267 i = μ 267 i) ∧ ν 267 8 = μ 267 6 ∧ ν 267 9 = z := fun z ν e => by
    refine ⟨fun a ha => by rw [e, zUp_ne _ ha, e1, zUp_ne _ ha], fun i h8 h9 => by rw [e, zUp_slot _ h9, e1, zUp_slot _ h8], by rw [e, zUp_slot _ (by decide), e1, zUp_same], by rw [e, zUp_same]⟩
  refine zH_eqc (congrArg Int32.toInt w1) (iL (0) (0) rfl) (fun _ c => ?_) (fun _ c => ?_)
  all_goals
    unfold fX12_isRead_n24
    refine zH_lt (fun μ2 e2 => ?_)
    obtain ⟨f1, f2, f3, f4⟩ := fin _ μ2 e2
    have w2 : μ2 267 6 = μ 267 6 := f2 6 (by decide) (by decide)
    refine zH_eqc (congrArg Int32.toInt w2) (iL (0) (0) rfl) (fun _ c2 => ?_) (fun _ c2 => ?_)
  · exact zH_some ⟨f1, f2, f3, fun _ => ⟨rfl, f4⟩, fun w => absurd c w⟩
  · exact absurd c c2
  · exact absurd c2 c
  · exact zH_some ⟨f1, f2, f3, fun w => absurd w c, fun _ => ⟨rfl, f4.trans w7⟩⟩
theorem K.rd {T : Int32} {C μ : gM} (h : K T C μ) {r : Int32 × gM} (p : RdQ μ r) : K T r.2 r.2 := by
  obtain ⟨f1, f2, f3, -⟩ := p
  obtain ⟨-, g2, ⟨b1, b2, b3, b4⟩, g4⟩ := h
  refine ⟨⟨fun _ _ => rfl, rfl, rfl, rfl⟩, by rw [f2 2 (by decide) (by decide)]; exact g2, ⟨by rw [f2 3 (by decide) (by decide)]; exact b1, by rw [f2 4 (by decide) (by decide)]; exact b2, by rw [f2 11 (by decide) (by decide)]; exact b3, by rw [f2 20 (by decide) (by decide)]; exact b4⟩, ?_⟩
  unfold KR at *
  rw [f1 269 (by decide), f1 270 (by decide), f1 271 (by decide), f1 272 (by decide), f1 273 (by decide)]
  exact g4
/-- what a reading leaves: the class's cells, the tape as they were; if it is refused the net, too, else the draft is the net -/
def NK (C μ : gM) (r : Int32 × gM) : Prop := K (μ 267 2) r.2 r.2 ∧ (∀ a, a < 267 ∨ a = 268 → r.2 a = C a) ∧ r.2 267 8 = μ 267 6 ∧ ((μ 267 6).toInt ≠ 0 → r.1 = -1 ∧ r.2 269 = C 269 ∧ r.2 267 15 = C 267 15 ∧ r.2 267 9 = μ 267 7) ∧ ((μ 267 6).toInt = 0 → r.1 = μ 270 2 ∧ (∀ j, j < 209 → r.2 269 j = μ 270 j) ∧ r.2 267 15 = 1 ∧ r.2 267 9 = -1)
theorem tX12_net_n92 {T : Int32} {C μ : gM} (h : K T C μ) : zH (fX12_net_n92 μ) (NK C μ) := by
  unfold fX12_net_n92
  refine zH_bp sX12_isRead (fun x4 μ5 p5 => ?_)
  have h5 : K T μ5 μ5 := h.rd p5
  have hT : μ 267 2 = T := h.2.1.1
  obtain ⟨f1, f2, f3, fa, fb⟩ := p5
  have f1 : ∀ a, a ≠ 267 → μ5 a = μ a := f1
  have f2 : ∀ i, i ≠ 8 → i ≠ 9 → μ5 267 i = μ 267 i := f2
  refine zH_eqc (rfl : x4.toInt = _) (iL (0) (0) rfl) (fun _ c4 => ?_) (fun _ c4 => ?_)
  · have b : (μ 267 6).toInt ≠ 0 := fun w => by
      have e : x4 = 1 := (fa w).1
      rw [e] at c4
      exact absurd c4 (by decide)
    refine zH_some ⟨by rw [hT]; exact h5, fun a ha => by rw [show (((-1 : Int32), μ5)).2 = μ5 from rfl, f1 a (by omega)]; exact h.1.1 a (by omega), f3, fun _ => ⟨rfl, by rw [show (((-1 : Int32), μ5)).2 = μ5 from rfl, f1 269 (by decide)]; exact h.1.1 269 (by decide), by rw [show (((-1 : Int32), μ5)).2 = μ5 from rfl, f2 15 (by decide) (by decide)]; exact h.1.2.2.2, (fb b).2⟩, fun w => absurd w b⟩
  · have b : (μ 267 6).toInt = 0 := by
      rcases Decidable.em ((μ 267 6).toInt = 0) with w | w
      · exact w
      · have e : x4 = 0 := (fb w).1
        rw [e] at c4
        exact absurd rfl c4
    refine net_l103 100000 (0 : Int32) 0 μ5 rfl (by decide) (by decide) (fun ν hν hj => ?_)
    have hn : K T ν ν := by
      obtain ⟨-, g2, g3, n1, n2, n3, n4, n5⟩ := h5
      refine ⟨⟨fun _ _ => rfl, rfl, rfl, rfl⟩, by rw [hν 267 (by decide)]; exact g2, by unfold KB at *; rw [hν 267 (by decide)]; exact g3, ?_⟩
      unfold KR
      rw [hν 270 (by decide), hν 271 (by decide), hν 272 (by decide), hν 273 (by decide)]
      refine ⟨n2.eq (fun j hj' => ?_), n2, n3, n4, n5⟩
      rw [hj, if_pos ⟨Nat.zero_le _, hj'⟩]
    refine zH_lt (fun μ6 e6 => ?_)
    have h6 : K T μ6 μ6 := by
      have w6 : ∀ a, a ≠ 267 → μ6 a = ν a := fun a ha => by rw [e6, zUp_ne _ ha]
      have s6 : ∀ i, i ≠ 15 → μ6 267 i = ν 267 i := fun i hi => by rw [e6, zUp_slot _ hi]
      obtain ⟨-, g2, ⟨b1, b2, b3, b4⟩, g4⟩ := hn
      refine ⟨⟨fun _ _ => rfl, rfl, rfl, rfl⟩, by rw [s6 2 (by decide)]; exact g2, ⟨by rw [s6 3 (by decide)]; exact b1, by rw [s6 4 (by decide)]; exact b2, by rw [s6 11 (by decide)]; exact b3, by rw [s6 20 (by decide)]; exact b4⟩, ?_⟩
      unfold KR at *
      rw [w6 269 (by decide), w6 270 (by decide), w6 271 (by decide), w6 272 (by decide), w6 273 (by decide)]
      exact g4
    refine zH_lt (fun μ7 e7 => ?_)
    have h7 : K T μ6 μ7 := by rw [e7]; exact h6.u267 (by decide) (fun e => absurd e (by decide)) (fun _ => ⟨by decide, by decide⟩)
    refine zH_lt (fun μ8 e8 => ?_)
    have h8 : K T μ6 μ8 := by rw [e8]; exact h7.uf (by decide)
    refine zH_lt (fun μ9 e9 => ?_)
    have h9 : K T μ6 μ9 := by rw [e9]; exact h8.uf (by decide)
    refine zH_bd (tX12_starts h9) (fun μ10 h10 => zH_some ?_)
    have d : ∀ a, a < 267 ∨ a = 268 → μ10 a = C a := fun a ha => by
      rw [h10.1.1 a (by omega), e6, zUp_ne _ (by omega), hν a (by omega), f1 a (by omega)]; exact h.1.1 a (by omega)
    have o : ∀ j, j < 209 → μ10 269 j = μ 270 j := fun j hj' => by
      rw [h10.1.1 269 (by decide), e6, zUp_ne _ (by decide), hj, if_pos ⟨Nat.zero_le _, hj'⟩, f1 270 (by decide)]
    refine ⟨by rw [hT]; exact h10.self, d, ?_, fun w => absurd b w, fun _ => ⟨o 2 (by decide), o, ?_, ?_⟩⟩
    · show μ10 267 8 = _
      rw [h10.1.2.1, e6, zUp_slot _ (by decide), hν 267 (by decide)]; exact f3
    · show μ10 267 15 = _
      rw [h10.1.2.2.2, e6, zUp_same]
    · show μ10 267 9 = _
      rw [h10.1.2.2.1, e6, zUp_slot _ (by decide), hν 267 (by decide)]; exact (fa b).2
/-- of a reading without what it read -/
def NR (T : Int32) (C : gM) (r : Int32 × gM) : Prop := K T r.2 r.2 ∧ ∀ a, a < 267 ∨ a = 268 → r.2 a = C a
theorem NR.of {T : Int32} {C μ : gM} (h : K T C μ) {r : Int32 × gM} (p : NK C μ r) : NR T C r := ⟨by rw [← h.2.1.1]; exact p.1, p.2.1⟩
theorem tX12_net_n75 {T : Int32} {C μ : gM} {k33 : Int32 → gM → Option (Int32 × gM)} {y1 : Int32} (h : K T C μ) (g0 : 0 ≤ y1.toInt) (g1 : y1.toInt ≤ 60) (b : y1.toInt = 60 → (μ 267 6).toInt ≠ 0) (hk : ∀ (x : Int32) (ν : gM), K T C ν → x.toInt = y1.toInt + 1 → (y1.toInt = 60 → (ν 267 6).toInt ≠ 0) → zH (k33 x ν) (NR T C)) : zH (fX12_net_n75 k33 y1 μ) (NR T C) := by
  unfold fX12_net_n75
  have q := iA (rfl : y1.toInt = _) (iL (1) (1) rfl) (by omega) (by omega)
  refine zH_bd (tX12_isFine) (fun x p => ?_)
  refine zH_eqc (rfl : x.toInt = _) (iL (0) (0) rfl) (fun _ c => ?_) (fun _ c => ?_)
  · exact zH_lt (fun x20 e20 => hk x20 μ h (by rw [e20]; exact q) b)
  · have b0 : (μ 267 6).toInt = 0 := p.2.1 (by have := p.1; omega)
    refine zH_bd (tX12_statement h) (fun μ21 h21 => ?_)
    exact zH_lt (fun x22 e22 => hk x22 μ21 h21 (by rw [e22]; exact q) (fun w => absurd b0 (b w)))
theorem tX12_net_n68 {T : Int32} {C μ : gM} {k33 : Int32 → gM → Option (Int32 × gM)} {y1 z0 : Int32} (hz : z0.toInt ≠ 0) (h : K T C μ) (g0 : 0 ≤ y1.toInt) (g1 : y1.toInt ≤ 60) (hk : ∀ (x : Int32) (ν : gM), K T C ν → x.toInt = y1.toInt + 1 → (y1.toInt = 60 → (ν 267 6).toInt ≠ 0) → zH (k33 x ν) (NR T C)) : zH (fX12_net_n68 k33 y1 z0 μ) (NR T C) := by
  unfold fX12_net_n68
  refine zH_bp (tX12_next h.hk h.kl) (fun x26 μ27 p27 => ?_)
  refine zH_bd (tX12_fail h.hk p27.1 hz) (fun μ28 p28 => ?_)
  exact tX12_net_n75 (h.lex p28.1) g0 g1 (fun _ => p28.2.1) hk
theorem tX12_net_l33 {T : Int32} {C : gM} : ∀ (n : Nat) (y1 : Int32) (μ : gM), K T C μ → 0 ≤ y1.toInt → y1.toInt ≤ 61 → (y1.toInt = 61 → (μ 267 6).toInt ≠ 0) → 61 - y1.toInt < (n : Int) → zH (fX12_net_l33 n y1 μ) (NR T C) := by
  intro n
  induction n with
  | zero =>
    intro y1 μ h g0 g1 b gm
    exact absurd gm (by omega)
  | succ n ih =>
    intro y1 μ h g0 g1 b gm
    rw [fX12_net_l33]
    refine zH_bd (tX12_isFine) (fun x3 p3 => ?_)
    refine zH_eqc (rfl : x3.toInt = _) (iL (0) (0) rfl) (fun _ c => zH_mono (tX12_net_n92 h) (fun r p => NR.of h p)) (fun _ c => ?_)
    have b0 : (μ 267 6).toInt = 0 := p3.2.1 (by have := p3.1; omega)
    have g2 : y1.toInt ≤ 60 := by
      rcases Int.lt_or_le 60 y1.toInt with w | w
      · exact absurd b0 (b (by omega))
      · exact w
    have hk : ∀ (x : Int32) (ν : gM), K T C ν → x.toInt = y1.toInt + 1 → (y1.toInt = 60 → (ν 267 6).toInt ≠ 0) → zH (fX12_net_l33 n x ν) (NR T C) := fun x ν hν hx hb => ih x ν hν (by omega) (by omega) (fun w => hb (by omega)) (by omega)
    refine zH_bp (tX12_isOver h.hk h.kl) (fun x17 μ18 p18 => ?_)
    have h18 := h.lex p18.1
    refine zH_ite (fun _ => ?_) (fun _ => zH_mono (tX12_net_n92 h18) (fun r p => NR.of h18 p))
    refine zH_eqc (rfl : y1.toInt = _) (iL (60) (60) rfl) (fun _ c60 => ?_) (fun _ c60 => ?_)
    · refine zH_bp (tX12_statementHere h18.hk h18.kl) (fun x24 μ25 p25 => ?_)
      have h25 := h18.lex p25.1
      exact zH_ite (fun _ => tX12_net_n68 (by decide) h25 g0 g2 hk) (fun _ => tX12_net_n68 (by decide) h25 g0 g2 hk)
    · exact tX12_net_n75 h18 g0 g2 (fun w => absurd w c60) hk
theorem NOK.z {f : Nat → Int32} (h : NOK f) {i : Nat} (hc : 43 ≤ i → i < 48 → (f 2).toInt = 0) : NOK (fun j => if j = i then 0 else f j) := by
  by_cases e2 : i = 2
  · subst e2
    obtain ⟨n0, n1, n2, n3, n4, n5⟩ := h
    refine ⟨n0, n1, ⟨show (0 : Int) ≤ 0 by decide, show (0 : Int) ≤ 5 by decide⟩, n3, fun g hg => ?_, fun g hg => ?_⟩
    · show (0 ≤ (if 43 + g = 2 then (0 : Int32) else f (43 + g)).toInt ∧ (if 43 + g = 2 then (0 : Int32) else f (43 + g)).toInt ≤ 8) ∧ ((g : Int) < (0 : Int32).toInt → 1 ≤ (if 43 + g = 2 then (0 : Int32) else f (43 + g)).toInt)
      rw [if_neg (by omega)]
      exact ⟨(n4 g hg).1, fun w => absurd w (by show ¬ (g : Int) < 0; omega)⟩
    · show 0 ≤ (if 48 + g = 2 then (0 : Int32) else f (48 + g)).toInt ∧ (if 48 + g = 2 then (0 : Int32) else f (48 + g)).toInt ≤ 63
      rw [if_neg (by omega)]; exact n5 g hg
  · by_cases e43 : 43 ≤ i ∧ i < 48
    · have z := hc e43.1 e43.2
      obtain ⟨n0, n1, n2, n3, n4, n5⟩ := h
      refine ⟨?_, ?_, ?_, ?_, fun g hg => ?_, fun g hg => ?_⟩
      · show 0 ≤ (if 0 = i then (0 : Int32) else f 0).toInt ∧ (if 0 = i then (0 : Int32) else f 0).toInt ≤ 6
        rw [if_neg (by omega)]; exact n0
      · show 0 ≤ (if 1 = i then (0 : Int32) else f 1).toInt ∧ (if 1 = i then (0 : Int32) else f 1).toInt ≤ 8
        rw [if_neg (by omega)]; exact n1
      · show 0 ≤ (if 2 = i then (0 : Int32) else f 2).toInt ∧ (if 2 = i then (0 : Int32) else f 2).toInt ≤ 5
        rw [if_neg (by omega)]; exact n2
      · show 0 ≤ (if 3 = i then (0 : Int32) else f 3).toInt ∧ (if 3 = i then (0 : Int32) else f 3).toInt ≤ 24
        rw [if_neg (by omega)]; exact n3
      · show (0 ≤ (if 43 + g = i then (0 : Int32) else f (43 + g)).toInt ∧ (if 43 + g = i then (0 : Int32) else f (43 + g)).toInt ≤ 8) ∧ ((g : Int) < (if 2 = i then (0 : Int32) else f 2).toInt → 1 ≤ (if 43 + g = i then (0 : Int32) else f (43 + g)).toInt)
        rw [if_neg (show ¬ 2 = i by omega)]
        refine ⟨?_, fun w => absurd w (by omega)⟩
        split
        · exact ⟨by decide, by decide⟩
        · exact (n4 g hg).1
      · show 0 ≤ (if 48 + g = i then (0 : Int32) else f (48 + g)).toInt ∧ (if 48 + g = i then (0 : Int32) else f (48 + g)).toInt ≤ 63
        rw [if_neg (by omega)]; exact n5 g hg
    · exact h.set (fun _ => ⟨by decide, by decide⟩) (fun _ => ⟨by decide, by decide⟩) e2 (fun _ => ⟨by decide, by decide⟩) (fun w1 w2 => absurd ⟨w1, w2⟩ e43) (fun _ _ => ⟨by decide, by decide⟩)
theorem tX12_net_l11 {T : Int32} {C : gM} : ∀ (n : Nat) (y1 : Int32) (k : Nat) (μ : gM), K T C μ → y1.toInt = k → k ≤ 209 → 209 < k + n → (3 ≤ k → (μ 270 2).toInt = 0) → zH (fX12_net_l11 n y1 μ) (NR T C) := by
  intro n
  induction n with
  | zero =>
    intro y1 k μ h h1 h2 gm
    exact absurd gm (by omega)
  | succ n ih =>
    intro y1 k μ h h1 h2 gm hz
    rw [fX12_net_l11]
    refine zH_lec (iL (209) (209) rfl) h1 (fun c => ?_) (fun c => ?_)
    · exact tX12_net_l33 100000 (0 : Int32) μ h (by decide) (by decide) (fun w => absurd w (by decide)) (by decide)
    · have i0 := zCl h1 (by omega)
      refine zH_ck (zIn h1 (by omega) (by omega)) ?_
      refine zH_lt (fun μ6 e6 => ?_)
      refine zH_lt (fun x7 e7 => ?_)
      have q7 : x7.toInt = ((k + 1 : Nat) : Int) := (congrArg Int32.toInt e7).trans ((iA h1 (iL (1) (1) rfl) (by omega) (by omega)).trans (by omega))
      have h6 : K T C μ6 := by
        rw [e6]
        refine h.r270 (fun a ha => zUp_ne _ ha) ?_
        rw [zUp_fun]
        exact h.2.2.2.2.1.z (fun w1 w2 => hz (by omega))
      refine ih x7 (k + 1) μ6 h6 q7 (by omega) (by omega) (fun w => ?_)
      rw [e6, zUp_at, if_pos rfl]
      split
      · rfl
      · exact hz (by omega)
theorem tX12_net {T : Int32} {C μ : gM} (h : K T C μ) : zH (fX12_net μ) (NR 0 C) := by
  unfold fX12_net
  refine zH_lt (fun μ1 e1 => ?_)
  have h1 : K T C μ1 := by rw [e1]; exact h.u0 _
  refine zH_bd (tX12_begins h1) (fun μ2 p2 => ?_)
  exact tX12_net_l11 100000 (0 : Int32) 0 μ2 p2.1 rfl (by decide) (by decide) (fun w => absurd w (by decide))
/-! plan -/
theorem K.e271 {T : Int32} {C μ ν : gM} (h : K T C μ) (h1 : ∀ a, a ≠ 271 → ν a = μ a) (he : ERO (ν 271)) : K T C ν := by
  refine h.ug (fun b hb => h1 b (by omega)) ?_
  obtain ⟨n1, n2, n3, n4, n5⟩ := h.2.2.2
  unfold KR
  rw [h1 269 (by decide), h1 270 (by decide), h1 272 (by decide), h1 273 (by decide)]
  exact ⟨n1, n2, he, n4, n5⟩
theorem tX12_laysEvent {T : Int32} {C μ : gM} {a1 a2 a3 a4 a5 : Int32} (h : K T C μ) (hz : (μ 267 6).toInt = 0 → (0 ≤ a1.toInt ∧ a1.toInt ≤ 19) ∧ RowOK a2.toInt a3.toInt a4.toInt) : zH (fX12_laysEvent a1 a2 a3 a4 a5 μ) (fun ν => K T C ν) := by
  unfold fX12_laysEvent
  refine zH_bd (tX12_isFine) (fun x p => ?_)
  refine zH_eqc (rfl : x.toInt = _) (iL (0) (0) rfl) (fun _ c => zH_some h) (fun _ c => ?_)
  obtain ⟨⟨g0, g1⟩, row⟩ := hz (p.2.1 (by have := p.1; omega))
  obtain ⟨n, hn⟩ : ∃ n : Nat, a1.toInt = n := ⟨a1.toInt.toNat, by omega⟩
  have q := iM (iL (5) (5) rfl) hn (by omega) (by omega)
  have q1 := iA q (iL (1) (1) rfl) (by omega) (by omega)
  have q2 := iA q (iL (2) (2) rfl) (by omega) (by omega)
  have q3 := iA q (iL (3) (3) rfl) (by omega) (by omega)
  have q4 := iA q (iL (4) (4) rfl) (by omega) (by omega)
  have i1 := zCl q1 (by omega)
  have i2 := zCl q2 (by omega)
  have i3 := zCl q3 (by omega)
  have i4 := zCl q4 (by omega)
  refine zH_ck (zIn q1 (by omega) (by omega)) ?_
  refine zH_lt (fun μ1 e1 => ?_)
  refine zH_ck (zIn q2 (by omega) (by omega)) ?_
  refine zH_lt (fun μ2 e2 => ?_)
  refine zH_ck (zIn q3 (by omega) (by omega)) ?_
  refine zH_lt (fun μ3 e3 => ?_)
  refine zH_ck (zIn q4 (by omega) (by omega)) ?_
  refine zH_lt (fun μ4 e4 => ?_)
  rw [show ((5 : Int32) * a1 + (1 : Int32)).toNatClampNeg = 5 * n + 1 by omega] at e1
  rw [show ((5 : Int32) * a1 + (2 : Int32)).toNatClampNeg = 5 * n + 2 by omega] at e2
  rw [show ((5 : Int32) * a1 + (3 : Int32)).toNatClampNeg = 5 * n + 3 by omega] at e3
  rw [show ((5 : Int32) * a1 + (4 : Int32)).toNatClampNeg = 5 * n + 4 by omega] at e4
  refine zH_some (h.e271 (fun a ha => by rw [e4, zUp_ne _ ha, e3, zUp_ne _ ha, e2, zUp_ne _ ha, e1, zUp_ne _ ha]) (fun k hk => ?_))
  by_cases ek : k = n
  · subst ek
    have t1 : μ4 271 (5 * k + 1) = a2 := by rw [e4, zUp_slot _ (by omega), e3, zUp_slot _ (by omega), e2, zUp_slot _ (by omega), e1, zUp_same]
    have t2 : μ4 271 (5 * k + 2) = a3 := by rw [e4, zUp_slot _ (by omega), e3, zUp_slot _ (by omega), e2, zUp_same]
    have t3 : μ4 271 (5 * k + 3) = a4 := by rw [e4, zUp_slot _ (by omega), e3, zUp_same]
    rw [t1, t2, t3]
    exact row
  · have s1 : ∀ j, j ≠ 5 * n + 1 → j ≠ 5 * n + 2 → j ≠ 5 * n + 3 → j ≠ 5 * n + 4 → μ4 271 j = μ 271 j := fun j h1 h2 h3 h4 => by
      rw [e4, zUp_slot _ h4, e3, zUp_slot _ h3, e2, zUp_slot _ h2, e1, zUp_slot _ h1]
    rw [s1 _ (by omega) (by omega) (by omega) (by omega), s1 _ (by omega) (by omega) (by omega) (by omega), s1 _ (by omega) (by omega) (by omega) (by omega)]
    exact h.2.2.2.2.2.1 k hk
theorem row_free {a b c : Int} (h0 : 0 ≤ a) (h5 : a ≤ 5) (h1 : a ≠ 1) : RowOK a b c := ⟨fun e => absurd e h1, fun e => absurd e (by omega)⟩
theorem or63_more : ∀ n : Fin 64, ∀ b : Fin 6, ¬ (((Int32.ofNat n.val) >>> ((Int32.ofNat b.val) &&& 31)) &&& (1 : Int32)) = (1 : Int32) → (Int32.ofNat n.val).toInt < (Int32.ofNat n.val ||| ((1 : Int32) <<< (Int32.ofNat b.val &&& 31))).toInt := by decide +kernel
theorem tX12_splitRead_n88 {T : Int32} {C μ : gM} {y1 y2 : Int32} (h : K T C μ) (g0 : 0 ≤ y1.toInt) (g1 : y1.toInt ≤ 19) : zH (fX12_splitRead_n88 y1 y2 μ) (fun ν => K T C ν) := by
  unfold fX12_splitRead_n88
  exact zH_bd (tX12_laysEvent h (fun _ => ⟨⟨g0, g1⟩, row_free (by decide) (by decide) (by decide)⟩)) (fun ν hν => zH_some hν)
theorem tX12_splitRead_l4 {T : Int32} {C : gM} : ∀ (n : Nat) (y1 y2 y3 : Int32) (μ : gM), K T C μ → 0 ≤ y1.toInt → y1.toInt ≤ 19 → 0 ≤ y2.toInt → y2.toInt ≤ 63 → 1 ≤ n → ((μ 267 6).toInt = 0 → y3.toInt ≠ 0 → 66 - y2.toInt ≤ (n : Int)) → zH (fX12_splitRead_l4 n y1 y2 y3 μ) (fun ν => K T C ν) := by
  intro n
  induction n with
  | zero =>
    intro y1 y2 y3 μ h g0 g1 g2 g3 gn
    exact absurd gn (by decide)
  | succ n ih =>
    intro y1 y2 y3 μ h g0 g1 g2 g3 gn gm
    rw [fX12_splitRead_l4]
    refine zH_bd (tX12_isFine) (fun x1 p1 => ?_)
    refine zH_eqc (rfl : x1.toInt = _) (iL (0) (0) rfl) (fun _ c => tX12_splitRead_n88 h g0 g1) (fun _ c => ?_)
    have b0 : (μ 267 6).toInt = 0 := p1.2.1 (by have := p1.1; omega)
    refine zH_eqc (rfl : y3.toInt = _) (iL (0) (0) rfl) (fun _ c3 => tX12_splitRead_n88 h g0 g1) (fun _ c3 => ?_)
    have gm := gm b0 c3
    refine zH_bp (tX12_oneRead h.hk (by decide) h.2.2.2.1 h.kl (by decide) (by decide)) (fun x3 μ4 p4 => ?_)
    have h4 : K T C μ4 := h.lex p4.1
    have n4 : QName 0 x3 := p4.2.1
    have q4 : (μ4 267 6).toInt = 0 → 0 ≤ x3.toInt ∧ x3.toInt ≤ 5 := fun w => by
      have w := (p4.2.2 w).2
      rcases n4 with a | a
      · exact absurd a w
      · have := a.2.2.1 rfl
        omega
    -- what goes on behind it
    have n65 : ∀ (s : Int32) (ν : gM), K T C ν → 0 ≤ s.toInt → s.toInt ≤ 63 → ((ν 267 6).toInt = 0 → y2.toInt < s.toInt) → zH (fX12_splitRead_n65 (fX12_splitRead_l4 n) y1 s ν) (fun ν => K T C ν) := by
      intro s ν hν s0 s1 sb
      unfold fX12_splitRead_n65
      refine zH_bd (tX12_isFine) (fun x7 p7 => ?_)
      refine zH_eqc (rfl : x7.toInt = _) (iL (0) (0) rfl) (fun _ c7 => ?_) (fun _ c7 => ?_)
      · exact ih y1 s (0 : Int32) ν hν g0 g1 s0 s1 (by omega) (fun _ w => absurd rfl w)
      · have b7 : (ν 267 6).toInt = 0 := p7.2.1 (by have := p7.1; omega)
        have sb := sb b7
        refine zH_bp (tX12_isName hν.hk hν.kl) (fun x8 μ9 p9 => ?_)
        refine zH_ite (fun _ => ?_) (fun _ => ?_)
        · exact ih y1 s (0 : Int32) μ9 (hν.lex p9.1) g0 g1 s0 s1 (by omega) (fun _ w => absurd rfl w)
        · exact ih y1 s (1 : Int32) μ9 (hν.lex p9.1) g0 g1 s0 s1 (by omega) (fun _ _ => by omega)
    have n51 : ∀ (ν : gM), K T C ν → ((ν 267 6).toInt = 0 → (0 ≤ x3.toInt ∧ x3.toInt ≤ 5) ∧ ¬ bitAt y2 x3) → zH (fX12_splitRead_n51 (fX12_splitRead_l4 n) y1 y2 x3 ν) (fun ν => K T C ν) := by
      intro ν hν hb
      unfold fX12_splitRead_n51
      refine zH_bd (tX12_isFine) (fun x6 p6 => ?_)
      refine zH_eqc (rfl : x6.toInt = _) (iL (0) (0) rfl) (fun _ c6 => ?_) (fun _ c6 => ?_)
      · exact n65 y2 ν hν g2 g3 (fun w => absurd w (p6.2.2 c6))
      · obtain ⟨⟨w0, w1⟩, wb⟩ := hb (p6.2.1 (by have := p6.1; omega))
        refine zH_lt (fun x12 e12 => ?_)
        have o := or63 g2 g3 w0 w1
        have m : y2.toInt < x12.toInt := by
          rw [e12]
          obtain ⟨m, rfl⟩ := i32_nat (N := 64) g2 (by omega) (by decide)
          obtain ⟨k, rfl⟩ := i32_nat (N := 6) w0 (by omega) (by decide)
          exact or63_more m k wb
        exact n65 x12 ν hν (by omega) (by rw [e12]; exact o.2) (fun _ => m)
    refine zH_bd (tX12_isFine) (fun x5 p5 => ?_)
    refine zH_eqc (rfl : x5.toInt = _) (iL (0) (0) rfl) (fun _ c5 => ?_) (fun _ c5 => ?_)
    · exact n51 μ4 h4 (fun w => absurd w (p5.2.2 c5))
    · have b5 : (μ4 267 6).toInt = 0 := p5.2.1 (by have := p5.1; omega)
      refine zH_bd sX12_isOf (fun x14 p14 => ?_)
      refine zH_eqc (rfl : x14.toInt = _) (iL (0) (0) rfl) (fun _ c14 => ?_) (fun _ c14 => ?_)
      · exact n51 μ4 h4 (fun w => ⟨q4 w, p14.2.2 c14⟩)
      · refine zH_bd (tX12_fail h4.hk h4.kl (by decide)) (fun ν pν => ?_)
        exact n51 ν (h4.lex pν.1) (fun w => absurd w pν.2.1)
theorem tX12_splitRead {T : Int32} {C μ : gM} {a1 : Int32} (h : K T C μ) (g0 : 0 ≤ a1.toInt) (g1 : a1.toInt ≤ 19) : zH (fX12_splitRead a1 μ) (fun ν => K T C ν) := by
  unfold fX12_splitRead
  exact tX12_splitRead_l4 100000 a1 (0 : Int32) (1 : Int32) μ h g0 g1 (by decide) (by decide) (by decide) (fun _ _ => by decide)
theorem tX12_wordRead_n59 {T : Int32} {C μ : gM} {y1 y2 y3 : Int32} (h : K T C μ) (g0 : 0 ≤ y1.toInt) (g1 : y1.toInt ≤ 19) (hz : (μ 267 6).toInt = 0 → (0 ≤ y2.toInt ∧ y2.toInt ≤ 5) ∧ 0 ≤ y3.toInt ∧ y3.toInt ≤ 4) : zH (fX12_wordRead_n59 y1 y2 y3 μ) (fun ν => K T C ν) := by
  unfold fX12_wordRead_n59
  refine zH_bp (tX12_number h.hk h.kl) (fun x7 μ8 p8 => ?_)
  refine zH_bd (tX12_laysEvent (h.lex p8.1) (fun w => ⟨⟨g0, g1⟩, fun e => absurd e (by decide), fun _ => hz (p8.2 w).1⟩)) (fun ν hν => zH_some hν)
theorem tX12_wordRead {T : Int32} {C μ : gM} {a1 : Int32} (h : K T C μ) (g0 : 0 ≤ a1.toInt) (g1 : a1.toInt ≤ 19) : zH (fX12_wordRead a1 μ) (fun ν => K T C ν) := by
  have hn := h.2.2.2.1
  unfold fX12_wordRead
  refine zH_bp (tX12_oneRead h.hk (by decide) hn h.kl (by decide) (by decide)) (fun x1 μ2 p2 => ?_)
  have n2 : QName 0 x1 := p2.2.1
  have q2 : (μ2 267 6).toInt = 0 → x1.toInt ≠ -1 := fun w => (p2.2.2 w).2
  refine zH_bd (tX12_asks h.hk p2.1) (fun μ3 p3 => ?_)
  have q3 : (μ3 267 6).toInt = 0 → (μ2 267 6).toInt = 0 := p3.2
  refine zH_bp (tX12_oneRead h.hk (by decide) hn p3.1 (by decide) (by decide)) (fun x4 μ5 p5 => ?_)
  have n5 : QName 2 x4 := p5.2.1
  have q5 : (μ5 267 6).toInt = 0 → (μ3 267 6).toInt = 0 ∧ x4.toInt ≠ -1 := p5.2.2
  have hz : (μ5 267 6).toInt = 0 → (0 ≤ x1.toInt ∧ x1.toInt ≤ 5) ∧ 0 ≤ x4.toInt ∧ x4.toInt ≤ 4 := fun w => by
    have w5 := q5 w
    have w2 := q2 (q3 w5.1)
    rcases n2 with a | a
    · exact absurd a w2
    rcases n5 with b | b
    · exact absurd b w5.2
    have a3 := a.2.2.1 rfl
    have b3 := b.2.2.2 rfl
    omega
  have h5 := h.lex p5.1
  refine zH_bd (tX12_isFine) (fun x6 p6 => ?_)
  refine zH_eqc (rfl : x6.toInt = _) (iL (0) (0) rfl) (fun _ c => tX12_wordRead_n59 h5 g0 g1 hz) (fun _ c => ?_)
  have w := hz (p6.2.1 (by have := p6.1; omega))
  refine zH_ck (zIn (iA (iL (48) (48) rfl) (rfl : x4.toInt = _) (by omega) (by omega)) (by omega) (by omega)) ?_
  refine zH_bd (tX12_isOf) (fun x11 p11 => ?_)
  refine zH_ite (fun _ => ?_) (fun _ => tX12_wordRead_n59 h5 g0 g1 hz)
  refine zH_bd (tX12_fail h5.hk h5.kl (by decide)) (fun ν pν => ?_)
  exact tX12_wordRead_n59 (h5.lex pν.1) g0 g1 (fun w => absurd w pν.2.1)
theorem tX12_eventRead_n284 {T : Int32} {C μ : gM} (h : K T C μ) : zH (fX12_eventRead_n284 μ) (fun ν => K T C ν) := by
  unfold fX12_eventRead_n284
  exact zH_bd (tX12_needsSign h.hk h.kl) (fun ν pν => zH_some (h.lex pν.1))
theorem ev_one {T : Int32} {C μ : gM} {y1 w s : Int32} (h : K T C μ) (g0 : 0 ≤ y1.toInt) (g1 : y1.toInt ≤ 19) (s0 : 0 ≤ s.toInt) (s1 : s.toInt ≤ 2) (hw : w.toInt = 1 ∧ s.toInt = 0 ∨ (0 ≤ w.toInt ∧ w.toInt ≤ 5 ∧ w.toInt ≠ 1)) : zH (zBp (fX12_oneRead 269 s μ) (fun x33 μ34 => zBd (fX12_laysEvent y1 w x33 (-1 : Int32) (-1 : Int32) μ34) (fun μ35 => (fX12_eventRead_n284 μ35)))) (fun ν => K T C ν) := by
  refine zH_bp (tX12_oneRead h.hk (by decide) h.2.2.2.1 h.kl s0 s1) (fun x μ4 p4 => ?_)
  have n4 : QName s x := p4.2.1
  have q4 : (μ4 267 6).toInt = 0 → x.toInt ≠ -1 := fun w => (p4.2.2 w).2
  refine zH_bd (tX12_laysEvent (h.lex p4.1) (fun b => ⟨⟨g0, g1⟩, ?_⟩)) (fun ν hν => tX12_eventRead_n284 hν)
  rcases hw with ⟨w1, w2⟩ | ⟨w1, w2, w3⟩
  · refine ⟨fun _ => ?_, fun e => absurd e (by omega)⟩
    rcases n4 with a | a
    · exact absurd a (q4 b)
    · have := a.2.2.1 w2
      omega
  · exact row_free w1 w2 w3
theorem tX12_eventRead_n100 {T : Int32} {C μ : gM} {y1 : Int32} (h : K T C μ) (g0 : 0 ≤ y1.toInt) (g1 : y1.toInt ≤ 19) : zH (fX12_eventRead_n100 y1 μ) (fun ν => K T C ν) := by
  unfold fX12_eventRead_n100
  refine zH_bp (tX12_takes h.hk h.kl) (fun x9 μ10 p10 => ?_)
  have h10 := h.lex p10.1
  refine zH_ite (fun _ => ?_) (fun _ => ev_one h10 g0 g1 (by decide) (by decide) (Or.inr ⟨by decide, by decide, by decide⟩))
  refine zH_bp (tX12_takes h10.hk h10.kl) (fun x11 μ12 p12 => ?_)
  have h12 := h10.lex p12.1
  refine zH_ite (fun _ => ?_) (fun _ => ev_one h12 g0 g1 (by decide) (by decide) (Or.inl ⟨rfl, rfl⟩))
  refine zH_bp (tX12_takes h12.hk h12.kl) (fun x13 μ14 p14 => ?_)
  have h14 := h12.lex p14.1
  refine zH_ite (fun _ => ?_) (fun _ => ev_one h14 g0 g1 (by decide) (by decide) (Or.inr ⟨by decide, by decide, by decide⟩))
  refine zH_bp (tX12_takes h14.hk h14.kl) (fun x15 μ16 p16 => ?_)
  have h16 := h14.lex p16.1
  refine zH_ite (fun _ => ?_) (fun _ => ev_one h16 g0 g1 (by decide) (by decide) (Or.inr ⟨by decide, by decide, by decide⟩))
  refine zH_bp (tX12_takes h16.hk h16.kl) (fun x17 μ18 p18 => ?_)
  have h18 := h16.lex p18.1
  refine zH_ite (fun _ => ?_) (fun _ => zH_bd (tX12_splitRead h18 g0 g1) (fun ν hν => tX12_eventRead_n284 hν))
  refine zH_bp (tX12_takes h18.hk h18.kl) (fun x19 μ20 p20 => ?_)
  have h20 := h18.lex p20.1
  refine zH_ite (fun _ => ?_) (fun _ => zH_bd (tX12_laysEvent h20 (fun _ => ⟨⟨g0, g1⟩, row_free (by decide) (by decide) (by decide)⟩)) (fun ν hν => tX12_eventRead_n284 hν))
  refine zH_bp (tX12_takes h20.hk h20.kl) (fun x21 μ22 p22 => ?_)
  have h22 := h20.lex p22.1
  refine zH_ite (fun _ => ?_) (fun _ => zH_bd (tX12_wordRead h22 g0 g1) (fun ν hν => tX12_eventRead_n284 hν))
  refine zH_bd (tX12_isFine) (fun x23 p23 => ?_)
  refine zH_ite (fun _ => tX12_eventRead_n284 h22) (fun _ => ?_)
  exact zH_bd (tX12_unlike h22.hk h22.kl) (fun ν pν => tX12_eventRead_n284 (h22.lex pν.1))
theorem tX12_eventRead_n84 {T : Int32} {C μ : gM} {y1 y2 : Int32} (h : K T C μ) (g0 : 0 ≤ y1.toInt) (g1 : y1.toInt ≤ 19) : zH (fX12_eventRead_n84 y1 y2 μ) (fun ν => K T C ν) := by
  unfold fX12_eventRead_n84
  refine zH_bd (tX12_isFine) (fun x8 p8 => ?_)
  refine zH_ite (fun _ => tX12_eventRead_n100 h g0 g1) (fun _ => ?_)
  obtain ⟨n, hn⟩ : ∃ n : Nat, y1.toInt = n := ⟨y1.toInt.toNat, by omega⟩
  have q := iM (iL (5) (5) rfl) hn (by omega) (by omega)
  have i0 := zCl q (by omega)
  refine zH_ck (zIn q (by omega) (by omega)) ?_
  refine zH_lt (fun μ1 e1 => ?_)
  have h1 : K T C μ1 := by
    rw [e1]
    refine h.e271 (fun a ha => zUp_ne _ ha) (fun k hk => ?_)
    rw [zUp_slot _ (by omega), zUp_slot _ (by omega), zUp_slot _ (by omega)]
    exact h.2.2.2.2.2.1 k hk
  exact tX12_eventRead_n100 h1 g0 g1
theorem tX12_eventRead_n29 {T : Int32} {C μ : gM} {y1 : Int32} (h : K T C μ) (g0 : 0 ≤ y1.toInt) (g : (μ 267 6).toInt = 0 → y1.toInt ≤ 19 ∧ (μ 267 4).toInt + (μ 267 11).toInt ≤ 1500) (g20 : y1.toInt ≤ 20) : zH (fX12_eventRead_n29 y1 μ) (fun ν => K T C ν ∧ (y1.toInt = 20 → (ν 267 6).toInt ≠ 0)) := by
  unfold fX12_eventRead_n29
  refine zH_bd (tX12_isFine) (fun x3 p3 => ?_)
  refine zH_eqc (rfl : x3.toInt = _) (iL (0) (0) rfl) (fun _ c => zH_some ⟨h, fun _ => p3.2.2 c⟩) (fun _ c => ?_)
  obtain ⟨g1, hl⟩ := g (p3.2.1 (by have := p3.1; omega))
  have fin : ∀ {m : Option gM}, zH m (fun ν => K T C ν) → zH m (fun ν => K T C ν ∧ (y1.toInt = 20 → (ν 267 6).toInt ≠ 0)) := fun hm => zH_mono hm (fun ν hν => ⟨hν, fun w => absurd w (by omega)⟩)
  refine zH_bd (tX12_pass h.hk h.kl hl) (fun μ4 p4 => ?_)
  refine zH_bp (tX12_number h.hk p4.1) (fun x5 μ6 p6 => ?_)
  have h6 : K T C μ6 := h.lex p6.1
  refine zH_bd (tX12_isFine) (fun x7 p7 => ?_)
  refine zH_ite (fun _ => fin (tX12_eventRead_n84 h6 g0 g1)) (fun _ => ?_)
  refine zH_lec (rfl : y1.toInt = _) (iL (0) (0) rfl) (fun _ => fin (tX12_eventRead_n84 h6 g0 g1)) (fun c0 => ?_)
  have q := iS (iM (iL (5) (5) rfl) (rfl : y1.toInt = _) (by omega) (by omega)) (iL (5) (5) rfl) (by omega) (by omega)
  refine zH_ck (zIn q (by omega) (by omega)) ?_
  refine zH_ite (fun _ => fin (tX12_eventRead_n84 h6 g0 g1)) (fun _ => ?_)
  exact zH_bd (tX12_fail h6.hk h6.kl (by decide)) (fun ν pν => fin (tX12_eventRead_n84 (h6.lex pν.1) g0 g1))
theorem tX12_eventRead_n13 {T : Int32} {C μ : gM} {y1 : Int32} (h : K T C μ) (g0 : 0 ≤ y1.toInt) (g20 : y1.toInt ≤ 20) (hl : (μ 267 6).toInt = 0 → (μ 267 4).toInt + (μ 267 11).toInt ≤ 1500) : zH (fX12_eventRead_n13 y1 μ) (fun ν => K T C ν ∧ (y1.toInt = 20 → (ν 267 6).toInt ≠ 0)) := by
  unfold fX12_eventRead_n13
  refine zH_eqc (rfl : y1.toInt = _) (iL (20) (20) rfl) (fun _ c => ?_) (fun _ c => ?_)
  · refine zH_bp (tX12_next h.hk h.kl) (fun x58 μ59 p59 => ?_)
    refine zH_bd (tX12_fail h.hk p59.1 (by decide)) (fun ν pν => ?_)
    exact tX12_eventRead_n29 (h.lex pν.1) g0 (fun w => absurd w pν.2.1) g20
  · exact tX12_eventRead_n29 h g0 (fun w => ⟨by omega, hl w⟩) g20
theorem tX12_eventRead {T : Int32} {C μ : gM} {a1 : Int32} (h : K T C μ) (g0 : 0 ≤ a1.toInt) (g20 : a1.toInt ≤ 20) : zH (fX12_eventRead a1 μ) (fun ν => K T C ν ∧ (a1.toInt = 20 → (ν 267 6).toInt ≠ 0)) := by
  unfold fX12_eventRead
  refine zH_bp (tX12_isWord h.hk h.kl) (fun x1 μ2 p2 => ?_)
  have h2 := h.lex p2.1
  have q2 : (x1.toInt = 0 ∨ x1.toInt = 1) ∧ (x1.toInt = 1 → (μ2 267 4).toInt + (μ2 267 11).toInt ≤ 1500) ∧ (μ2 267 6).toInt = (μ 267 6).toInt := p2.2
  refine zH_eqc (rfl : x1.toInt = _) (iL (0) (0) rfl) (fun _ c => ?_) (fun _ c => ?_)
  · refine zH_bd (tX12_unlike h2.hk h2.kl) (fun ν pν => ?_)
    have qν : (ν 267 6).toInt ≠ 0 := pν.2
    exact tX12_eventRead_n13 (h2.lex pν.1) g0 g20 (fun w => absurd w qν)
  · exact tX12_eventRead_n13 h2 g0 g20 (fun _ => q2.2.1 (by omega))
theorem plan_l74 {m : Nat} (hm : m ≤ 20) : ∀ (n : Nat) (y1 y2 : Int32) (k : Nat) (μ : gM), y1.toInt = m → y2.toInt = k → k ≤ 5 * m → 5 * m < k + n → zH (fX12_plan_l74 n y1 y2 μ) (fun r => r.1 = y1 ∧ (∀ a, a ≠ 272 → r.2 a = μ a) ∧ ∀ j, r.2 272 j = if 145 + k ≤ j ∧ j < 145 + 5 * m then μ 271 (j - 145) else μ 272 j) := by
  intro n
  induction n with
  | zero =>
    intro y1 y2 k μ h1 h2 h3 gm
    exact absurd gm (by omega)
  | succ n ih =>
    intro y1 y2 k μ h1 h2 h3 gm
    rw [fX12_plan_l74]
    have q5 := iM (iL (5) (5) rfl) h1 (by omega) (by omega)
    refine zH_lec q5 h2 (fun c => zH_some ⟨rfl, fun _ _ => rfl, fun j => ?_⟩) (fun c => ?_)
    · rw [if_neg (by omega)]
    · have q := iA (iL (145) (145) rfl) h2 (by omega) (by omega)
      have i0 := zCl q (by omega)
      have i1 := zCl h2 (by omega)
      refine zH_ck (zIn h2 (by omega) (by omega)) ?_
      refine zH_ck (zIn q (by omega) (by omega)) ?_
      refine zH_lt (fun μ3 e3 => ?_)
      refine zH_lt (fun x4 e4 => ?_)
      have q4 : x4.toInt = ((k + 1 : Nat) : Int) := (congrArg Int32.toInt e4).trans ((iA h2 (iL (1) (1) rfl) (by omega) (by omega)).trans (by omega))
      refine zH_mono (ih y1 x4 (k + 1) μ3 h1 q4 (by omega) (by omega)) (fun r p => ⟨p.1, fun a ha => ?_, fun j => ?_⟩)
      · rw [p.2.1 a ha, e3, zUp_ne _ ha]
      · rw [p.2.2 j]
        have w : μ3 271 = μ 271 := by rw [e3]; exact zUp_ne _ (by decide)
        rw [w]
        by_cases ej : j = 145 + k
        · rw [if_neg (by omega), if_pos (by omega), e3, show j = ((145 : Int32) + y2).toNatClampNeg by omega, zUp_same, show ((145 : Int32) + y2).toNatClampNeg - 145 = y2.toNatClampNeg by omega]
        · have w3 : μ3 272 j = μ 272 j := by rw [e3, zUp_slot _ (by omega)]
          rw [w3]
          by_cases c1 : 145 + (k + 1) ≤ j ∧ j < 145 + 5 * m
          · rw [if_pos c1, if_pos (by omega)]
          · rw [if_neg c1, if_neg (by omega)]
/-- what plan() leaves -/
def PN (T : Int32) (C : gM) (r : Int32 × gM) : Prop := K T r.2 r.2 ∧ (∀ a, a < 267 ∨ a = 268 ∨ a = 269 → r.2 a = C a) ∧ r.2 267 15 = C 267 15
theorem tX12_plan_n51 {T : Int32} {C μ : gM} {y1 : Int32} (h : K T C μ) (g0 : 0 ≤ y1.toInt) (g1 : (μ 267 6).toInt = 0 → y1.toInt ≤ 20) : zH (fX12_plan_n51 y1 μ) (PN T C) := by
  unfold fX12_plan_n51
  refine zH_bp sX12_isRead (fun x4 μ5 p5 => ?_)
  have h5 : K T μ5 μ5 := h.rd p5
  obtain ⟨f1, f2, f3, fa, fb⟩ := p5
  have f1 : ∀ a, a ≠ 267 → μ5 a = μ a := f1
  have f2 : ∀ i, i ≠ 8 → i ≠ 9 → μ5 267 i = μ 267 i := f2
  have pn : ∀ {r : Int32 × gM}, K T μ5 r.2 → PN T C r := fun {r} hr => ⟨hr.self, fun a ha => by rw [hr.1.1 a ha, f1 a (by omega)]; exact h.1.1 a ha, by rw [hr.1.2.2.2, f2 15 (by decide) (by decide)]; exact h.1.2.2.2⟩
  refine zH_eqc (rfl : x4.toInt = _) (iL (0) (0) rfl) (fun _ _ => zH_some (pn h5)) (fun _ c => ?_)
  have b : (μ 267 6).toInt = 0 := by
    rcases Decidable.em ((μ 267 6).toInt = 0) with w | w
    · exact w
    · have e : x4 = 0 := (fb w).1
      rw [e] at c
      exact absurd rfl c
  have g1 := g1 b
  refine zH_bd (tX12_keepsAct h5) (fun μ6 h6 => ?_)
  refine zH_lt (fun μ7 e7 => ?_)
  have h7 : K T μ5 μ7 := by rw [e7]; exact h6.uw8 ⟨g0, g1⟩
  refine zH_mono (plan_l74 (m := y1.toInt.toNat) (by omega) 100000 y1 (0 : Int32) 0 μ7 (by omega) rfl (by omega) (by omega)) (fun r p => ?_)
  refine pn (h7.w2 p.2.1 ?_)
  have w := h7.2.2.2.2.2.2.1
  refine ⟨by rw [p.2.2 7, if_neg (by omega)]; exact w.1, by rw [p.2.2 8, if_neg (by omega)]; exact w.2.1, fun k hk => ?_⟩
  show RowOK (r.2 272 (145 + (5 * k + 1))).toInt (r.2 272 (145 + (5 * k + 2))).toInt (r.2 272 (145 + (5 * k + 3))).toInt
  rw [p.2.2, p.2.2, p.2.2]
  by_cases c : k < y1.toInt.toNat
  · rw [if_pos (by omega), if_pos (by omega), if_pos (by omega)]
    have := h7.2.2.2.2.2.1 k hk
    rw [show 145 + (5 * k + 1) - 145 = 5 * k + 1 by omega, show 145 + (5 * k + 2) - 145 = 5 * k + 2 by omega, show 145 + (5 * k + 3) - 145 = 5 * k + 3 by omega]
    exact this
  · rw [if_neg (by omega), if_neg (by omega), if_neg (by omega)]
    exact w.2.2 k hk
theorem tX12_plan_l26 {T : Int32} {C : gM} : ∀ (n : Nat) (y1 : Int32) (μ : gM), K T C μ → 0 ≤ y1.toInt → y1.toInt ≤ 21 → (y1.toInt = 21 → (μ 267 6).toInt ≠ 0) → 21 - y1.toInt < (n : Int) → zH (fX12_plan_l26 n y1 μ) (PN T C) := by
  intro n
  induction n with
  | zero =>
    intro y1 μ h g0 g1 b gm
    exact absurd gm (by omega)
  | succ n ih =>
    intro y1 μ h g0 g1 b gm
    rw [fX12_plan_l26]
    refine zH_bd (tX12_isFine) (fun x3 p3 => ?_)
    refine zH_eqc (rfl : x3.toInt = _) (iL (0) (0) rfl) (fun _ c => tX12_plan_n51 h g0 (fun w => absurd w (p3.2.2 c))) (fun _ c => ?_)
    have b0 : (μ 267 6).toInt = 0 := p3.2.1 (by have := p3.1; omega)
    have g2 : y1.toInt ≤ 20 := by
      rcases Int.lt_or_le 20 y1.toInt with w | w
      · exact absurd b0 (b (by omega))
      · exact w
    refine zH_bp (tX12_isOver h.hk h.kl) (fun x14 μ15 p15 => ?_)
    have h15 := h.lex p15.1
    refine zH_ite (fun _ => ?_) (fun _ => tX12_plan_n51 h15 g0 (fun _ => g2))
    refine zH_bd (tX12_eventRead h15 g0 g2) (fun μ16 p16 => ?_)
    refine zH_lt (fun x17 e17 => ?_)
    have q : x17.toInt = y1.toInt + 1 := (congrArg Int32.toInt e17).trans (iA rfl (iL (1) (1) rfl) (by omega) (by omega))
    exact ih x17 μ16 p16.1 (by omega) (by omega) (fun w => p16.2 (by omega)) (by omega)
theorem tX12_plan {T : Int32} {C μ : gM} (h : K T C μ) : zH (fX12_plan μ) (PN 0 C) := by
  unfold fX12_plan
  refine zH_lt (fun μ1 e1 => ?_)
  have h1 : K T C μ1 := by rw [e1]; exact h.u0 _
  refine zH_ite (fun _ => ?_) (fun _ => ?_)
  · refine zH_lt (fun μ20 e20 => ?_)
    have h20 : K 0 C μ20 := by rw [e20]; exact h1.st (by decide) (by decide)
    exact zH_some ⟨h20.self, h20.1.1, h20.1.2.2.2⟩
  · refine zH_bd (tX12_begins h1) (fun μ2 p2 => ?_)
    exact tX12_plan_l26 100000 (0 : Int32) μ2 p2.1 (by decide) (by decide) (fun w => absurd w (by decide)) (by decide)
theorem tX12_end {T : Int32} {C μ : gM} {a1 : Int32} (h : K T C μ) : zH (fX12_end a1 μ) (fun r => ((0 ≤ a1.toInt ∧ a1.toInt ≤ T.toInt) → r.1 = 1 ∧ K a1 C r.2) ∧ (¬ (0 ≤ a1.toInt ∧ a1.toInt ≤ T.toInt) → r.1 = 0 ∧ K T C r.2)) := by
  unfold fX12_end
  refine zH_lt (fun μ1 e1 => ?_)
  have h1 : K T C μ1 := by rw [e1]; exact h.u0 _
  rw [h1.2.1.1]
  refine zH_bd (tX12_isIn (i64 (rfl : a1.toInt = _)) (iLL (0) (0) rfl) (i64 (rfl : T.toInt = _))) (fun x2 p2 => ?_)
  refine zH_eqc (rfl : x2.toInt = _) (iL (0) (0) rfl) (fun _ c => ?_) (fun _ c => ?_)
  · have w := p2.2.2 c
    exact zH_some ⟨fun v => absurd v (by omega), fun _ => ⟨rfl, h1⟩⟩
  · have w := p2.2.1 (by have := p2.1; omega)
    refine zH_lt (fun μ3 e3 => ?_)
    have ht := h1.2.1.2.2
    exact zH_some ⟨fun _ => ⟨rfl, show K a1 C μ3 by rw [e3]; exact h1.st w.1 (by omega)⟩, fun v => absurd w v⟩
