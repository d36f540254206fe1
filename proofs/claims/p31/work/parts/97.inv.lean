/-! both objects between two calls -/
def Base (μ : gM) : Prop := J true (μ 1 2) μ μ ∧ K (μ 267 2) μ μ ∧ μ 1 2 = μ 267 2
/-- what a call leaves that reads nothing -/
def Same (μ ν : gM) : Prop := (∀ a, a < 34 → ν a = μ a) ∧ ν 268 = μ 268 ∧ ν 269 = μ 269 ∧ ν 267 8 = μ 267 8 ∧ ν 267 9 = μ 267 9 ∧ ν 267 15 = μ 267 15
theorem J.mv {w : Bool} {L : Int32} {M μ ν : gM} (h : J w L M μ) (e : ∀ a, a < 267 → ν a = μ a) : J true L ν ν := by
  obtain ⟨h1, h2, h3, h4⟩ := h
  refine ⟨fun a ha i => by rw [e a ha]; exact h1 a ha i, fun q hq hq' hq2 => ?_, by rw [e 1 (by decide)]; exact h3, fun _ _ => rfl⟩
  have hp := h2 q hq hq' hq2
  have e1 : q + 1 < 267 := by
    rcases Nat.lt_or_ge (q + 1) 267 with w | w
    · exact w
    · have : q = 266 := by omega
      subst this
      exact absurd hq' (by decide)
  unfold PR at *
  rw [e q hq, e (q + 1) e1]
  exact hp
theorem K.mv {T : Int32} {C μ ν : gM} (h : K T C μ) (e : ∀ a, 267 ≤ a → ν a = μ a) : K T ν ν := by
  obtain ⟨-, h2, h3, h4⟩ := h
  refine ⟨⟨fun _ _ => rfl, rfl, rfl, rfl⟩, by rw [e 267 (by decide)]; exact h2, ?_, ?_⟩
  · unfold KB at *; rw [e 267 (by decide)]; exact h3
  · unfold KR at *
    rw [e 269 (by decide), e 270 (by decide), e 271 (by decide), e 272 (by decide), e 273 (by decide)]
    exact h4
theorem baseG {w : Bool} {L T : Int32} {M C μ1 μ2 : gM} (hJ : J w L M μ1) (hK : K T C μ2) (hc : ∀ a, a < 267 → μ2 a = μ1 a) (e : L = T) : Base μ2 := by
  refine ⟨?_, ?_, ?_⟩
  · rw [show μ2 1 2 = L by rw [hc 1 (by decide)]; exact hJ.2.2.1]
    exact J.mv hJ hc
  · rw [hK.2.1.1]
    exact K.mv hK (fun _ _ => rfl)
  · rw [hc 1 (by decide), hJ.2.2.1, hK.2.1.1, e]
theorem Base.k {μ μ1 : gM} (h : Base μ) (e : ∀ a, 267 ≤ a → μ1 a = μ a) : K (μ 267 2) μ1 μ1 := K.mv h.2.1 e
theorem stepW {μ : gM} {f : Option (Int32 × gM)} {g : gM → Option (Int32 × gM)} (h : Base μ) (hf : zH f (fun r => J true (μ 1 2) μ r.2)) (hg : ∀ (T : Int32) (C ν : gM), K T C ν → zH (g ν) (fun r => K T C r.2)) : ∃ (v v2 : Int32) (μ1 μ2 : gM), f = some (v, μ1) ∧ g μ1 = some (v2, μ2) ∧ Base μ2 ∧ Same μ μ2 := by
  obtain ⟨⟨v, μ1⟩, e1, h1⟩ := hf
  have h1 : J true (μ 1 2) μ μ1 := h1
  have hx : ∀ a, 267 ≤ a → μ1 a = μ a := fun a ha => h1.2.2.2 a (Or.inr (Or.inl ha))
  obtain ⟨⟨v2, μ2⟩, e2, h2⟩ := hg _ _ _ (h.k hx)
  have h2 : K (μ 267 2) μ1 μ2 := h2
  refine ⟨v, v2, μ1, μ2, e1, e2, baseG h1 h2 (fun a ha => h2.1.1 a (Or.inl ha)) h.2.2, ?_⟩
  refine ⟨fun a ha => by rw [h2.1.1 a (by omega)]; exact h1.2.2.2 a (Or.inr (Or.inr ⟨rfl, ha⟩)), by rw [h2.1.1 268 (by omega), hx 268 (by decide)], by rw [h2.1.1 269 (by omega), hx 269 (by decide)], by rw [h2.1.2.1, hx 267 (by decide)], by rw [h2.1.2.2.1, hx 267 (by decide)], by rw [h2.1.2.2.2, hx 267 (by decide)]⟩
theorem stepR {μ : gM} {Q : Int32 → Prop} {f : Option Int32} {g : gM → Option (Int32 × gM)} (h : Base μ) (hf : zH f Q) (hg : ∀ (T : Int32) (C ν : gM), K T C ν → zH (g ν) (fun r => K T C r.2)) : ∃ (v v2 : Int32) (μ2 : gM), f = some v ∧ g μ = some (v2, μ2) ∧ Base μ2 ∧ Same μ μ2 := by
  obtain ⟨v, e1, -⟩ := hf
  obtain ⟨⟨v2, μ2⟩, e2, h2⟩ := hg _ _ _ h.2.1
  have h2 : K (μ 267 2) μ μ2 := h2
  exact ⟨v, v2, μ2, e1, e2, baseG h.1 h2 (fun a ha => h2.1.1 a (Or.inl ha)) h.2.2, fun a ha => h2.1.1 a (by omega), h2.1.1 268 (by omega), h2.1.1 269 (by omega), h2.1.2.1, h2.1.2.2.1, h2.1.2.2.2⟩
/-- what plan() leaves; what net() leaves at least -/
def SameP (μ ν : gM) : Prop := (∀ a, 2 ≤ a → a ≤ 16 → ν a = μ a) ∧ ν 268 = μ 268 ∧ ν 269 = μ 269 ∧ ν 267 15 = μ 267 15
theorem stepPlan {μ : gM} (h : Base μ) : ∃ (v v2 : Int32) (μ1 μ2 : gM), fX11_plan μ = some (v, μ1) ∧ fX12_plan μ1 = some (v2, μ2) ∧ Base μ2 ∧ SameP μ μ2 ∧ (μ2 1 2).toInt = 0 := by
  obtain ⟨⟨v, μ1⟩, e1, h1⟩ := tX11_plan h.1.weak
  have h1 : J false 0 μ μ1 := h1
  have hx : ∀ a, 267 ≤ a → μ1 a = μ a := fun a ha => h1.2.2.2 a (Or.inr (Or.inl ha))
  obtain ⟨⟨v2, μ2⟩, e2, h2, h3, h4⟩ := tX12_plan (h.k hx)
  have h2 : K 0 μ2 μ2 := h2
  have h3 : ∀ a, a < 267 ∨ a = 268 ∨ a = 269 → μ2 a = μ1 a := h3
  have h4 : μ2 267 15 = μ1 267 15 := h4
  refine ⟨v, v2, μ1, μ2, e1, e2, baseG h1 h2 (fun a ha => h3 a (Or.inl ha)) rfl, ⟨fun a q1 q2 => by rw [h3 a (by omega)]; exact h1.2.2.2 a (Or.inl ⟨q1, q2⟩), by rw [h3 268 (by omega), hx 268 (by decide)], by rw [h3 269 (by omega), hx 269 (by decide)], by rw [h4, hx 267 (by decide)]⟩, ?_⟩
  rw [h3 1 (by omega), h1.2.2.1]; rfl
theorem stepNet {μ : gM} (h : Base μ) : ∃ (v v2 : Int32) (μ1 μ2 : gM), fX11_net μ = some (v, μ1) ∧ fX12_net μ1 = some (v2, μ2) ∧ Base μ2 ∧ (μ2 2 = μ 2 ∧ μ2 3 = μ 3 ∧ μ2 268 = μ 268) ∧ (μ2 1 2).toInt = 0 := by
  obtain ⟨⟨v, μ1⟩, e1, M', h1, h1'⟩ := tX11_net h.1.weak
  have h1 : J false 0 M' μ1 := h1
  have hx : ∀ a, 267 ≤ a → μ1 a = μ a := fun a ha => (h1.2.2.2 a (Or.inr (Or.inl ha))).trans (h1' a (by omega))
  obtain ⟨⟨v2, μ2⟩, e2, h2, h3⟩ := tX12_net (h.k hx)
  have h2 : K 0 μ2 μ2 := h2
  have h3 : ∀ a, a < 267 ∨ a = 268 → μ2 a = μ1 a := h3
  refine ⟨v, v2, μ1, μ2, e1, e2, baseG h1 h2 (fun a ha => h3 a (Or.inl ha)) rfl, ⟨?_, ?_, by rw [h3 268 (by omega), hx 268 (by decide)]⟩, ?_⟩
  · rw [h3 2 (by omega), h1.2.2.2 2 (Or.inl (by decide))]; exact h1' 2 (by omega)
  · rw [h3 3 (by omega), h1.2.2.2 3 (Or.inl (by decide))]; exact h1' 3 (by omega)
  · rw [h3 1 (by omega), h1.2.2.1]; rfl
/-- what end() leaves -/
def SameE (μ ν : gM) : Prop := (∀ a, a < 34 → a ≠ 1 → ν a = μ a) ∧ (∀ i, i ≠ 2 → ν 1 i = μ 1 i) ∧ (ν 1 2).toInt ≤ (μ 1 2).toInt ∧ ν 268 = μ 268 ∧ ν 269 = μ 269 ∧ ν 267 8 = μ 267 8 ∧ ν 267 9 = μ 267 9 ∧ ν 267 15 = μ 267 15
theorem stepEnd {μ : gM} {a : Int32} (h : Base μ) : ∃ (v : Int32) (μ1 μ2 : gM), fX11_end a μ = some (v, μ1) ∧ fX12_end a μ1 = some (v, μ2) ∧ Base μ2 ∧ SameE μ μ2 := by
  have hl := h.1.len
  have ht : (μ 1 2).toInt = (μ 267 2).toInt := by rw [h.2.2]
  have z0 : (0 : Int32).toInt = 0 := rfl
  unfold fX11_end
  by_cases c0 : a < 0
  · rw [if_pos c0]
    have c0' := Int32.lt_iff_toInt_lt.mp c0
    obtain ⟨⟨v2, μ2⟩, e2, h2⟩ := tX12_end (a1 := a) h.2.1
    obtain ⟨r1, r2⟩ := h2.2 (by omega)
    have r1 : v2 = 0 := r1
    have r2 : K (μ 267 2) μ μ2 := r2
    refine ⟨0, μ, μ2, rfl, by rw [e2, r1], baseG h.1 r2 (fun a ha => r2.1.1 a (Or.inl ha)) h.2.2, fun a ha _ => r2.1.1 a (by omega), fun i _ => by rw [r2.1.1 1 (by omega)], by rw [r2.1.1 1 (by omega)]; exact Int.le_refl _, r2.1.1 268 (by omega), r2.1.1 269 (by omega), r2.1.2.1, r2.1.2.2.1, r2.1.2.2.2⟩
  · rw [if_neg c0]
    have c0' : ¬ a.toInt < (0 : Int32).toInt := fun w => c0 (Int32.lt_iff_toInt_lt.mpr w)
    by_cases c1 : a ≤ μ 1 2
    · rw [if_pos c1]
      have c1' := Int32.le_iff_toInt_le.mp c1
      have j1 : J false a μ (gUp μ 1 2 a) := J.sl h.1.weak (by omega) (by omega)
      have hx : ∀ q, 267 ≤ q → gUp μ 1 2 a q = μ q := fun q hq => zUp_ne _ (by omega)
      obtain ⟨⟨v2, μ2⟩, e2, h2⟩ := tX12_end (a1 := a) (h.k hx)
      obtain ⟨r1, r2⟩ := h2.1 (by omega)
      have r1 : v2 = 1 := r1
      have r2 : K a (gUp μ 1 2 a) μ2 := r2
      refine ⟨1, gUp μ 1 2 a, μ2, rfl, by rw [e2, r1], baseG j1 r2 (fun q hq => r2.1.1 q (Or.inl hq)) rfl, fun q hq h1 => by rw [r2.1.1 q (by omega), zUp_ne _ h1], fun i hi => by rw [r2.1.1 1 (by omega), zUp_slot _ hi], by rw [r2.1.1 1 (by omega), zUp_same]; exact c1', by rw [r2.1.1 268 (by omega)]; exact hx 268 (by decide), by rw [r2.1.1 269 (by omega)]; exact hx 269 (by decide), by rw [r2.1.2.1, hx 267 (by decide)], by rw [r2.1.2.2.1, hx 267 (by decide)], by rw [r2.1.2.2.2, hx 267 (by decide)]⟩
    · rw [if_neg c1]
      have c1' : ¬ a.toInt ≤ (μ 1 2).toInt := fun w => c1 (Int32.le_iff_toInt_le.mpr w)
      obtain ⟨⟨v2, μ2⟩, e2, h2⟩ := tX12_end (a1 := a) h.2.1
      obtain ⟨r1, r2⟩ := h2.2 (by omega)
      have r1 : v2 = 0 := r1
      have r2 : K (μ 267 2) μ μ2 := r2
      refine ⟨0, μ, μ2, rfl, by rw [e2, r1], baseG h.1 r2 (fun a ha => r2.1.1 a (Or.inl ha)) h.2.2, fun a ha _ => r2.1.1 a (by omega), fun i _ => by rw [r2.1.1 1 (by omega)], by rw [r2.1.1 1 (by omega)]; exact Int.le_refl _, r2.1.1 268 (by omega), r2.1.1 269 (by omega), r2.1.2.1, r2.1.2.2.1, r2.1.2.2.2⟩
/-- a byte more on the class's tape: the frame is told anew -/
theorem J.byte {L : Int32} {M μ : gM} (h : J false L M μ) {n : Nat} {x : Int32} : J false L (gUp M 2 n x) (gUp μ 2 n x) := by
  refine ⟨fun a ha i => ?_, fun q hq hq' hq2 => ?_, by rw [zUp_ne _ (by decide)]; exact h.2.2.1, fun a ha => ?_⟩
  · by_cases e : a = 2
    · subst e; exact i32b _
    · rw [zUp_ne _ e]; exact h.1 a ha i
  · have e1 : q ≠ 2 := fun e => by subst e; exact absurd hq' (by decide)
    have e2 : q + 1 ≠ 2 := fun e => by
      have : q = 1 := by omega
      subst this
      exact absurd hq' (by decide)
    have := h.2.1 q hq hq' hq2
    unfold PR at *
    rw [zUp_ne _ e1, zUp_ne _ e2]
    exact this
  · by_cases e : a = 2
    · subst e
      funext j
      rw [zUp_at, zUp_at, if_pos rfl, if_pos rfl, h.2.2.2 2 ha]
    · rw [zUp_ne _ e, zUp_ne _ e]; exact h.2.2.2 a ha
theorem J.ap {L : Int32} {M μ : gM} (h : J false L M μ) {n : Nat} {x : Int32} (hn : n + 1 ≤ 1500) : J false (nI (n + 1)) (gUp M 2 n x) (gAp μ n x) := by
  unfold gAp
  have q := nI_toInt (n := n + 1) (by omega)
  exact J.sl h.byte (by omega) (by omega)
theorem K.byte {T : Int32} {C μ : gM} (h : K T C μ) {n : Nat} {x : Int32} : K T (gUp C 268 n x) (gUp μ 268 n x) := by
  obtain ⟨⟨g1, g2⟩, g3, g4, g5⟩ := h
  refine ⟨⟨fun a ha => ?_, by rw [zUp_ne _ (by decide), zUp_ne _ (by decide)]; exact g2⟩, by rw [zUp_ne _ (by decide)]; exact g3, by unfold KB at *; rw [zUp_ne _ (by decide)]; exact g4, ?_⟩
  · by_cases e : a = 268
    · subst e
      funext j
      rw [zUp_at, zUp_at, if_pos rfl, if_pos rfl, g1 268 ha]
    · rw [zUp_ne _ e, zUp_ne _ e]; exact g1 a ha
  · unfold KR at *
    rw [zUp_ne _ (by decide), zUp_ne _ (by decide), zUp_ne _ (by decide), zUp_ne _ (by decide), zUp_ne _ (by decide)]
    exact g5
theorem K.pu {T : Int32} {C μ : gM} (h : K T C μ) {n : Nat} {x : Int32} (hn : n + 1 ≤ 1500) : K (nI (n + 1)) (gUp C 268 n x) (gPu μ n x) := by
  unfold gPu
  have q := nI_toInt (n := n + 1) (by omega)
  exact K.st h.byte (by omega) (by omega)
/-- only the tape changes -/
def onlyT (c : Nat) (M N : gM) : Prop := ∀ a, a ≠ c → N a = M a
theorem J.ap4 {L : Int32} {M μ : gM} (h : J false L M μ) {n : Nat} {x : Int32} (hn : n + 4 ≤ 1500) : ∃ N, onlyT 2 M N ∧ J false (nI (n + 4)) N (gAp4 μ n x) :=
  ⟨_, fun a ha => by rw [zUp_ne _ ha, zUp_ne _ ha, zUp_ne _ ha, zUp_ne _ ha], (((h.ap (by omega)).ap (by omega)).ap (by omega)).ap (by omega)⟩
theorem K.pu4 {T : Int32} {C μ : gM} (h : K T C μ) {n : Nat} {x : Int32} (hn : n + 4 ≤ 1500) : ∃ N, onlyT 268 C N ∧ K (nI (n + 4)) N (gPu4 μ n x) :=
  ⟨_, fun a ha => by rw [zUp_ne _ ha, zUp_ne _ ha, zUp_ne _ ha, zUp_ne _ ha], (((h.pu (by omega)).pu (by omega)).pu (by omega)).pu (by omega)⟩
theorem onlyT.tr {c : Nat} {A B C : gM} (h : onlyT c A B) (g : onlyT c B C) : onlyT c A C := fun a ha => (g a ha).trans (h a ha)
theorem J.ap20 {L : Int32} {M μ : gM} (h : J false L M μ) {n : Nat} {a b c d e : Int32} (hn : n + 20 ≤ 1500) : ∃ N, onlyT 2 M N ∧ J false (nI (n + 20)) N (gAp20 μ n a b c d e) := by
  obtain ⟨N1, t1, j1⟩ := h.ap4 (n := n) (x := a) (by omega)
  obtain ⟨N2, t2, j2⟩ := j1.ap4 (n := n + 4) (x := b) (by omega)
  obtain ⟨N3, t3, j3⟩ := j2.ap4 (n := n + 8) (x := c) (by omega)
  obtain ⟨N4, t4, j4⟩ := j3.ap4 (n := n + 12) (x := d) (by omega)
  obtain ⟨N5, t5, j5⟩ := j4.ap4 (n := n + 16) (x := e) (by omega)
  exact ⟨N5, (((t1.tr t2).tr t3).tr t4).tr t5, j5⟩
theorem K.pu20 {T : Int32} {C μ : gM} (h : K T C μ) {n : Nat} {a b c d e : Int32} (hn : n + 20 ≤ 1500) : ∃ N, onlyT 268 C N ∧ K (nI (n + 20)) N (gPu20 μ n a b c d e) := by
  obtain ⟨N1, t1, j1⟩ := h.pu4 (n := n) (x := a) (by omega)
  obtain ⟨N2, t2, j2⟩ := j1.pu4 (n := n + 4) (x := b) (by omega)
  obtain ⟨N3, t3, j3⟩ := j2.pu4 (n := n + 8) (x := c) (by omega)
  obtain ⟨N4, t4, j4⟩ := j3.pu4 (n := n + 12) (x := d) (by omega)
  obtain ⟨N5, t5, j5⟩ := j4.pu4 (n := n + 16) (x := e) (by omega)
  exact ⟨N5, (((t1.tr t2).tr t3).tr t4).tr t5, j5⟩
/-- a byte of either tape -/
def CHP (x y : Int32) : Prop := (0 ≤ x.toInt ∧ x.toInt ≤ 255) ∧ (x.toInt < 128 → y.toInt = x.toInt) ∧ (128 ≤ x.toInt → y.toInt < 0)
theorem chp (x : Int32) : CHP (x &&& 255) x.toInt8.toInt32 := by
  have e1 : (x &&& 255).toInt = ((x.toBitVec.toNat % 2 ^ 8 : Nat) : Int) := by
    rw [pk_and x 8 (by decide)]
    have : x.toBitVec.toNat % 2 ^ 8 < 2 ^ 8 := Nat.mod_lt _ (by decide)
    exact nI_toInt (by omega)
  have e2 : x.toInt8.toInt32.toInt = x.toInt.bmod (2 ^ 8) := by rw [Int8.toInt_toInt32, Int32.toInt_toInt8]
  have e3 : x.toInt = x.toBitVec.toInt := rfl
  have e4 : x.toInt % 256 = ((x.toBitVec.toNat % 256 : Nat) : Int) := by
    rw [e3, BitVec.toInt_eq_toNat_cond]
    have := x.toBitVec.isLt
    split <;> omega
  have e5 : x.toInt.bmod (2 ^ 8) = if x.toInt % 256 < 128 then x.toInt % 256 else x.toInt % 256 - 256 := by
    rw [Int.bmod_def]
    rfl
  unfold CHP
  rw [e2, e5, e1, e4]
  have : x.toBitVec.toNat % 256 < 256 := Nat.mod_lt _ (by decide)
  split <;> omega
def TPR (f g : Nat → Int32) (n : Nat) : Prop := ∀ i, i < n → CHP (f i) (g i)
theorem TPR.one {μ ξ : gM} {n : Nat} {x y : Int32} (h : TPR (μ 2) (ξ 268) n) (c : CHP x y) : TPR (gAp μ n x 2) (gPu ξ n y 268) (n + 1) := fun i hi => by
  unfold gAp gPu
  rw [zUp_ne _ (show (2 : Nat) ≠ 1 by decide), zUp_ne _ (show (268 : Nat) ≠ 267 by decide), zUp_at, zUp_at, if_pos rfl, if_pos rfl]
  by_cases e : i = n
  · rw [if_pos e, if_pos e]; exact c
  · rw [if_neg e, if_neg e]; exact h i (by omega)
theorem TPR.four {μ ξ : gM} {n : Nat} {a : Int32} (h : TPR (μ 2) (ξ 268) n) : TPR (gAp4 μ n a 2) (gPu4 ξ n a 268) (n + 4) :=
  (((h.one (chp _)).one (chp _)).one (chp _)).one (chp _)
theorem TPR.all {μ ξ : gM} {n : Nat} {a b c d e : Int32} (h : TPR (μ 2) (ξ 268) n) : TPR (gAp20 μ n a b c d e 2) (gPu20 ξ n a b c d e 268) (n + 20) :=
  ((((h.four).four).four).four).four
def TAPE (μ : gM) : Prop := TPR (μ 2) (μ 268) (μ 1 2).toInt.toNat
/-- what feed() leaves -/
def SameF (μ ν : gM) : Prop := (∀ a, 3 ≤ a → a < 34 → ν a = μ a) ∧ (∀ i, i ≠ 2 → ν 1 i = μ 1 i) ∧ ν 269 = μ 269 ∧ ν 267 8 = μ 267 8 ∧ ν 267 9 = μ 267 9 ∧ ν 267 15 = μ 267 15
theorem stepFeed {μ : gM} {a b c d e : Int32} (h : Base μ) (ht : TAPE μ) : ∃ (v : Int32) (μ1 μ2 : gM), fX11_feed a b c d e μ = some (v, μ1) ∧ fX12_feed a b c d e μ1 = some (v, μ2) ∧ Base μ2 ∧ TAPE μ2 ∧ μ2 3 = μ 3 ∧ (∀ a, 4 ≤ a → a ≤ 16 → μ2 a = μ a) ∧ μ2 269 = μ 269 ∧ μ2 267 15 = μ 267 15 := by
  have hl : 0 ≤ (μ 1 2).toInt ∧ (μ 1 2).toInt ≤ 1500 := h.1.len
  obtain ⟨n, hn⟩ : ∃ n : Nat, (μ 1 2).toInt = n := ⟨(μ 1 2).toInt.toNat, by omega⟩
  have en : μ 1 2 = nI n := Int32.toInt_inj.mp (by rw [hn]; exact (nI_toInt (by omega)).symm)
  by_cases c20 : n + 20 ≤ 1500
  · obtain ⟨N, tN, hJ⟩ := J.ap20 (a := a) (b := b) (c := c) (d := d) (e := e) h.1.weak c20
    have hx : ∀ q, 267 ≤ q → gAp20 μ n a b c d e q = μ q := fun q hq => (hJ.2.2.2 q (Or.inr (Or.inl hq))).trans (tN q (by omega))
    have hK := (h.k hx).u0 0
    obtain ⟨O, tO, hO⟩ := K.pu20 (a := a) (b := b) (c := c) (d := d) (e := e) hK c20
    have t1 : gAp20 μ n a b c d e 267 2 = nI n := by rw [hx 267 (by decide), ← h.2.2, en]
    have fr : ∀ q, q < 267 → gPu20 (gUp (gAp20 μ n a b c d e) 267 0 0) n a b c d e q = gAp20 μ n a b c d e q := fun q hq => (hO.1.1 q (Or.inl hq)).trans (tO q (by omega))
    refine ⟨_, _, _, feed_c en c20, feed_m t1 c20, baseG hJ hO fr rfl, ?_, ?_, fun q h1 h2 => ?_, ?_, ?_⟩
    · unfold TAPE
      rw [fr 1 (by decide), hJ.2.2.1, fr 2 (by decide), show (nI (n + 20)).toInt.toNat = n + 20 by rw [nI_toInt (by omega)]; omega]
      have ht' : TPR (μ 2) (gUp (gAp20 μ n a b c d e) 267 0 0 268) n := by
        rw [zUp_ne _ (by decide), hx 268 (by decide)]
        have := ht
        unfold TAPE at this
        rw [hn] at this
        exact this
      exact ht'.all
    · rw [fr 3 (by decide), hJ.2.2.2 3 (Or.inl (by decide))]; exact tN 3 (by decide)
    · rw [fr q (by omega), hJ.2.2.2 q (Or.inl ⟨by omega, h2⟩)]; exact tN q (by omega)
    · rw [hO.1.1 269 (by omega), tO 269 (by decide)]; exact hx 269 (by decide)
    · rw [hO.1.2.2.2, tO 267 (by decide)]; exact congrFun (hx 267 (by decide)) 15
  · have q : ¬ ((μ 1 2) + (20 : Int32)) ≤ (1500 : Int32) := fun w => by
      have w1 := Int32.le_iff_toInt_le.mp w
      rw [iA hn (iL (20) (20) rfl) (by omega) (by omega)] at w1
      have : ((1500 : Int32)).toInt = 1500 := rfl
      omega
    have f1 : fX11_feed a b c d e μ = some (-1, μ) := by unfold fX11_feed; rw [if_neg q]
    have f2 : fX12_feed a b c d e μ = some (-1, gUp μ 267 0 0) := by
      have e2 : gUp μ 267 0 0 267 2 = μ 267 2 := zUp_slot _ (by decide)
      unfold fX12_feed
      simp only [zLt]
      rw [e2, ← h.2.2, if_neg q]
    refine ⟨_, _, _, f1, f2, baseG h.1 (h.2.1.u0 0) (fun q hq => zUp_ne _ (by omega)) h.2.2, ?_, zUp_ne _ (by decide), fun q h1 h2 => zUp_ne _ (by omega), zUp_ne _ (by decide), zUp_slot _ (by decide)⟩
    unfold TAPE
    rw [zUp_ne _ (show (1 : Nat) ≠ 267 by decide), zUp_ne _ (show (2 : Nat) ≠ 267 by decide), zUp_ne _ (show (268 : Nat) ≠ 267 by decide)]
    exact ht
theorem bdC_0 (k : Nat × Nat) (i : Nat) : (bdC k i).1 ≤ 0 ∧ 0 ≤ (bdC k i).2 := by
  unfold bdC
  split <;> (try split) <;> exact ⟨by decide, by decide⟩
theorem row0 : RowOK 0 0 0 := row_free (by decide) (by decide) (by decide)
theorem w0 : WOK (fun _ => 0) := ⟨⟨by decide, by decide⟩, ⟨by decide, by decide⟩, fun k hk => show RowOK 0 0 0 from row0⟩
theorem n0 : NOK (fun _ => 0) := ⟨⟨by decide, by decide⟩, ⟨by decide, by decide⟩, ⟨by decide, by decide⟩, ⟨by decide, by decide⟩, fun g hg => ⟨show (0 : Int) ≤ 0 ∧ (0 : Int) ≤ 8 from ⟨by decide, by decide⟩, fun w => absurd w (show ¬ (g : Int) < 0 by omega)⟩, fun g hg => show (0 : Int) ≤ 0 ∧ (0 : Int) ≤ 63 from ⟨by decide, by decide⟩⟩
theorem Base_0 : Base gM0 := by
  have z : ∀ a, a ≠ 3 → a ≠ 1 → a ≠ 267 → ∀ i, gM0 a i = 0 := fun a h1 h2 h3 i => by rw [gM0_z h1 h2 h3]
  refine ⟨?_, ?_, rfl⟩
  · refine ⟨fun a ha i => ?_, fun q hq hq' hq2 k hk => ?_, rfl, fun _ _ => rfl⟩
    · by_cases e3 : a = 3
      · subst e3; exact i32b _
      · by_cases e1 : a = 1
        · subst e1
          match i with
          | 0 => exact i32b _
          | 1 => exact i32b _
          | 2 => exact ⟨by decide, by decide⟩
          | 3 => exact ⟨by decide, by decide⟩
          | i + 4 => exact i32b _
        · rw [z a e3 e1 (by omega) i]; exact bdC_0 _ _
    · have e3 : q ≠ 3 := fun e => by subst e; exact absurd hq' (by decide)
      have e1 : q ≠ 1 := fun e => by subst e; exact absurd hq' (by decide)
      rw [z q e3 e1 (by omega) 0] at hk
      exact absurd hk (by show ¬ (k : Int) < 0; omega)
  · refine ⟨⟨fun _ _ => rfl, rfl, rfl, rfl⟩, ⟨rfl, by decide, by decide⟩, ⟨⟨by decide, by decide⟩, ⟨by decide, by decide⟩, ⟨by decide, by decide⟩, by decide, by decide⟩, ?_⟩
    unfold KR
    rw [gM0_z (by decide) (by decide) (by decide), gM0_z (by decide) (by decide) (by decide), gM0_z (by decide) (by decide) (by decide), gM0_z (by decide) (by decide) (by decide), gM0_z (by decide) (by decide) (by decide)]
    exact ⟨n0, n0, fun k hk => show RowOK 0 0 0 from row0, w0, fun b hb => w0⟩
