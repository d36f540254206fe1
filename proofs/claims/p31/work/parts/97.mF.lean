/-! the relation of a state of the class to the reference's row -/
def NU (s : Nat) (μ ξ : gM) : Prop := μ s 0 = ξ 272 0 ∧ μ s 1 = ξ 272 1 ∧ μ s 2 = ξ 272 2 ∧ μ s 3 = ξ 272 3 ∧ μ s 4 = ξ 272 4 ∧ μ s 5 = ξ 272 9 ∧ 0 ≤ (ξ 272 9).toInt
def MW (s : Nat) (μ ξ : gM) : Prop := ∀ g k, mem (ξ 269) g k → μ (s + 9) (6 * g + k) = ξ 272 (10 + (6 * g + k)) ∧ (1 ≤ (ξ 272 (10 + (6 * g + k))).toInt ∧ (ξ 272 (10 + (6 * g + k))).toInt ≤ 255) ∧ μ (s + 10) (6 * g + k) = wv (ξ 269) (ξ 272 2) (ξ 272 (10 + (6 * g + k))) g k ∧ μ (s + 11) (6 * g + k) = sv (ξ 269) g (μ (s + 10) (6 * g + k))
/-- the log's bounds; with F the logs, the counts of letters and of moves alike -/
def AX (s : Nat) (F : Prop) (c : Int32) (μ ξ : gM) : Prop := ((0 ≤ (μ (s + 3) 0).toInt ∧ (μ (s + 3) 0).toInt ≤ 60) ∧ 0 ≤ (μ (s + 3) 1).toInt ∧ (μ (s + 3) 1).toInt ≤ 59) ∧ (0 ≤ (ξ 272 7).toInt ∧ (ξ 272 7).toInt ≤ 60) ∧ (F → LOG s μ ξ ∧ μ s 6 = ξ 272 5 ∧ μ s 7 = ξ 272 6 ∧ μ (s + 14) 4 = ξ 267 22 + c)
def CTX (s : Nat) (F : Prop) (c : Int32) (μ ξ : gM) : Prop := NET μ ξ ∧ NU s μ ξ ∧ MW s μ ξ ∧ AX s F c μ ξ
/-- what work at one group changes: the class, the reference -/
def DG (s g : Nat) (μ ν : gM) : Prop := (∀ a, a ≠ s → a ≠ s + 3 → a ≠ s + 4 → a ≠ s + 5 → a ≠ s + 8 → a ≠ s + 12 → a ≠ s + 13 → a ≠ s + 14 → ν a = μ a) ∧ (∀ i, i ≠ 5 → i ≠ 6 → i ≠ 7 → ν s i = μ s i) ∧ (∀ j, j ≠ g → ν (s + 5) j = μ (s + 5) j ∧ ν (s + 8) j = μ (s + 8) j) ∧ (∀ j, j < 6 * g ∨ 6 * g + 6 ≤ j → ν (s + 12) j = μ (s + 12) j ∧ ν (s + 13) j = μ (s + 13) j) ∧ ∀ i, i ≠ 4 → ν (s + 14) i = μ (s + 14) i
def EG (g : Nat) (ξ ζ : gM) : Prop := (∀ a, a ≠ 267 → a ≠ 272 → a ≠ 275 → ζ a = ξ a) ∧ ((∀ i, i ≠ 22 → ζ 267 i = ξ 267 i) ∧ (ξ 272 4 = 0 → ζ 272 9 = ξ 272 9)) ∧ ∀ i, i < 245 → i ≠ 5 → i ≠ 6 → i ≠ 7 → i ≠ 9 → (i < 40 + 6 * g ∨ 46 + 6 * g ≤ i) → (i < 70 + 6 * g ∨ 76 + 6 * g ≤ i) → (i < 100 + 6 * g ∨ 106 + 6 * g ≤ i) → i ≠ 140 + g → ζ 272 i = ξ 272 i
theorem DG.rf (s g : Nat) (μ : gM) : DG s g μ μ := ⟨fun _ _ _ _ _ _ _ _ _ => rfl, fun _ _ _ _ => rfl, fun _ _ => ⟨rfl, rfl⟩, fun _ _ => ⟨rfl, rfl⟩, fun _ _ => rfl⟩
theorem DG.tr {s g : Nat} {a b c : gM} (h : DG s g a b) (k : DG s g b c) : DG s g a c := ⟨fun i h0 h1 h2 h3 h4 h5 h6 h7 => (k.1 i h0 h1 h2 h3 h4 h5 h6 h7).trans (h.1 i h0 h1 h2 h3 h4 h5 h6 h7), fun i h0 h1 h2 => (k.2.1 i h0 h1 h2).trans (h.2.1 i h0 h1 h2), fun j hj => ⟨(k.2.2.1 j hj).1.trans (h.2.2.1 j hj).1, (k.2.2.1 j hj).2.trans (h.2.2.1 j hj).2⟩, fun j hj => ⟨(k.2.2.2.1 j hj).1.trans (h.2.2.2.1 j hj).1, (k.2.2.2.1 j hj).2.trans (h.2.2.2.1 j hj).2⟩, fun i hi => (k.2.2.2.2 i hi).trans (h.2.2.2.2 i hi)⟩
theorem EG.rf (g : Nat) (ξ : gM) : EG g ξ ξ := ⟨fun _ _ _ _ => rfl, ⟨fun _ _ => rfl, fun _ => rfl⟩, fun _ _ _ _ _ _ _ _ _ _ => rfl⟩
theorem EG.tr {g : Nat} {a b c : gM} (h : EG g a b) (k : EG g b c) : EG g a c := ⟨fun i h0 h1 h2 => (k.1 i h0 h1 h2).trans (h.1 i h0 h1 h2), ⟨fun i hi => (k.2.1.1 i hi).trans (h.2.1.1 i hi), fun w => (k.2.1.2 (by rw [h.2.2 4 (by omega) (by omega) (by omega) (by omega) (by omega) (by omega) (by omega) (by omega) (by omega)]; exact w)).trans (h.2.1.2 w)⟩, fun i h0 h1 h2 h3 h4 h5 h6 h7 h8 => (k.2.2 i h0 h1 h2 h3 h4 h5 h6 h7 h8).trans (h.2.2 i h0 h1 h2 h3 h4 h5 h6 h7 h8)⟩
theorem CTX.mv {s g : Nat} {F : Prop} {c : Int32} {μ ξ μ' ξ' : gM} (h : CTX s F c μ ξ) (hs : 34 ≤ s) (hg : g < 5) (d : DG s g μ μ') (e : EG g ξ ξ') (hx : μ' s 5 = ξ' 272 9 ∧ 0 ≤ (ξ' 272 9).toInt) (ax : AX s F c μ' ξ') : CTX s F c μ' ξ' := by
  obtain ⟨hn, ⟨n0, n1, n2, n3, n4, -⟩, hw, -⟩ := h
  have e9 : ξ' 269 = ξ 269 := e.1 269 (by decide) (by decide) (by decide)
  have lo : ∀ i, i < 5 → ξ' 272 i = ξ 272 i := fun i hi => e.2.2 i (by omega) (by omega) (by omega) (by omega) (by omega) (by omega) (by omega) (by omega) (by omega)
  have ls : ∀ i, i < 5 → μ' s i = μ s i := fun i hi => d.2.1 i (by omega) (by omega) (by omega)
  have ro : ∀ a, a = s + 9 ∨ a = s + 10 ∨ a = s + 11 → μ' a = μ a := fun a ha => d.1 a (by omega) (by omega) (by omega) (by omega) (by omega) (by omega) (by omega) (by omega)
  refine ⟨hn.fr (fun a h1 h2 => d.1 a (by omega) (by omega) (by omega) (by omega) (by omega) (by omega) (by omega) (by omega)) e9, ⟨by rw [ls 0 (by omega), lo 0 (by omega)]; exact n0, by rw [ls 1 (by omega), lo 1 (by omega)]; exact n1, by rw [ls 2 (by omega), lo 2 (by omega)]; exact n2, by rw [ls 3 (by omega), lo 3 (by omega)]; exact n3, by rw [ls 4 (by omega), lo 4 (by omega)]; exact n4, hx⟩, fun g' k m => ?_, ax⟩
  rw [e9] at m
  have := m.1
  have := m.2.1
  rw [ro (s + 9) (by omega), ro (s + 10) (by omega), ro (s + 11) (by omega), e9, lo 2 (by omega), e.2.2 (10 + (6 * g' + k)) (by omega) (by omega) (by omega) (by omega) (by omega) (by omega) (by omega) (by omega) (by omega)]
  exact hw g' k m
/-- one member -/
def ST (s g k : Nat) (lo : Int) (μ ξ : gM) : Prop := μ (s + 12) (6 * g + k) = ξ 272 (70 + (6 * g + k)) ∧ μ (s + 13) (6 * g + k) = ξ 272 (100 + (6 * g + k)) - 1 ∧ (0 ≤ (ξ 272 (70 + (6 * g + k))).toInt ∧ (ξ 272 (70 + (6 * g + k))).toInt ≤ 200) ∧ (bt (ξ 272 1) k = true → lo ≤ (ξ 272 (70 + (6 * g + k))).toInt) ∧ ((bt (ξ 272 1) k = false ∧ bt (μ (s + 5) g) k = false ∧ ξ 272 (40 + (6 * g + k)) = 0 ∧ ξ 272 (70 + (6 * g + k)) = 0 ∧ ξ 272 (100 + (6 * g + k)) = 0) ∨ (bt (ξ 272 1) k = true ∧ ((bt (μ (s + 5) g) k = false ∧ ξ 272 (40 + (6 * g + k)) = 1) ∨ (bt (μ (s + 5) g) k = true ∧ ξ 272 (40 + (6 * g + k)) = 2))))
/-- one group, but for some members -/
def GRP (s g : Nat) (X : Nat → Prop) (lo : Nat → Int) (μ ξ : gM) : Prop := (∀ k, mem (ξ 269) g k → ¬ X k → ST s g k (lo k) μ ξ) ∧ (∀ k, k < 6 → ¬ mem (ξ 269) g k → ξ 272 (40 + (6 * g + k)) = 0 ∧ bt (μ (s + 5) g) k = false) ∧ (∀ k, 6 ≤ k → k < 32 → bt (μ (s + 5) g) k = false) ∧ μ (s + 8) g = ξ 272 (140 + g)
theorem GRP.one {s g k : Nat} {X X' : Nat → Prop} {lo lo' : Nat → Int} {μ ξ μ' ξ' : gM} (h : GRP s g X lo μ ξ) (m : mem (ξ 269) g k) (e9 : ξ' 269 = ξ 269) (e1 : ξ' 272 1 = ξ 272 1) (hb : ∀ j, j < 32 → j ≠ k → bt (μ' (s + 5) g) j = bt (μ (s + 5) g) j) (hc : ∀ j, j < 6 → j ≠ k → μ' (s + 12) (6 * g + j) = μ (s + 12) (6 * g + j) ∧ μ' (s + 13) (6 * g + j) = μ (s + 13) (6 * g + j)) (hr : ∀ j, j < 6 → j ≠ k → ξ' 272 (40 + (6 * g + j)) = ξ 272 (40 + (6 * g + j)) ∧ ξ' 272 (70 + (6 * g + j)) = ξ 272 (70 + (6 * g + j)) ∧ ξ' 272 (100 + (6 * g + j)) = ξ 272 (100 + (6 * g + j))) (hX : ∀ j, j ≠ k → ¬ X' j → ¬ X j) (hlo : ∀ j, j ≠ k → lo' j ≤ lo j) (st : ¬ X' k → ST s g k (lo' k) μ' ξ') (c8 : μ' (s + 8) g = ξ' 272 (140 + g)) : GRP s g X' lo' μ' ξ' := by
  obtain ⟨a1, a2, a3, -⟩ := h
  refine ⟨fun j mj hj => ?_, fun j hj mj => ?_, fun j h6 h32 => ?_, c8⟩
  · by_cases ej : j = k
    · subst ej; exact st hj
    · rw [e9] at mj
      have j6 := mj.2.1
      have := a1 j mj (hX j ej hj)
      unfold ST at *
      obtain ⟨r1, r2, r3⟩ := hr j j6 ej
      obtain ⟨d1, d2⟩ := hc j j6 ej
      rw [r1, r2, r3, d1, d2, e1, hb j (by omega) ej]
      obtain ⟨q1, q2, q3, q4, q5⟩ := this
      exact ⟨q1, q2, q3, fun w => by have := q4 w; have := hlo j ej; omega, q5⟩
  · rw [e9] at mj
    have ej : j ≠ k := fun e => mj (by rw [e]; exact m)
    rw [(hr j hj ej).1, hb j (by omega) ej]
    exact a2 j hj mj
  · have ej : j ≠ k := by have := m.2.1; omega
    rw [hb j h32 ej]; exact a3 j h6 h32
/-- another group is left alone -/
theorem GRP.fr {s g g' : Nat} {X : Nat → Prop} {lo : Nat → Int} {μ ξ μ' ξ' : gM} (h : GRP s g' X lo μ ξ) (hg : g < 5) (hg' : g' < 5) (ne : g' ≠ g) (d : DG s g μ μ') (e : EG g ξ ξ') : GRP s g' X lo μ' ξ' := by
  obtain ⟨a1, a2, a3, a6⟩ := h
  have e9 : ξ' 269 = ξ 269 := e.1 269 (by decide) (by decide) (by decide)
  have r : ∀ i, i < 245 → i ≠ 5 → i ≠ 6 → i ≠ 7 → i ≠ 9 → (i < 40 + 6 * g ∨ 46 + 6 * g ≤ i) → (i < 70 + 6 * g ∨ 76 + 6 * g ≤ i) → (i < 100 + 6 * g ∨ 106 + 6 * g ≤ i) → i ≠ 140 + g → ξ' 272 i = ξ 272 i := e.2.2
  obtain ⟨c5, c8⟩ := d.2.2.1 g' ne
  refine ⟨fun j mj hj => ?_, fun j hj mj => ?_, fun j h6 h32 => ?_, ?_⟩
  · rw [e9] at mj
    have j6 := mj.2.1
    obtain ⟨d1, d2⟩ := d.2.2.2.1 (6 * g' + j) (by omega)
    have := a1 j mj hj
    unfold ST at *
    rw [d1, d2, c5, r 1 (by omega) (by omega) (by omega) (by omega) (by omega) (by omega) (by omega) (by omega) (by omega), r (40 + (6 * g' + j)) (by omega) (by omega) (by omega) (by omega) (by omega) (by omega) (by omega) (by omega) (by omega), r (70 + (6 * g' + j)) (by omega) (by omega) (by omega) (by omega) (by omega) (by omega) (by omega) (by omega) (by omega), r (100 + (6 * g' + j)) (by omega) (by omega) (by omega) (by omega) (by omega) (by omega) (by omega) (by omega) (by omega)]
    exact this
  · rw [e9] at mj
    rw [c5, r (40 + (6 * g' + j)) (by omega) (by omega) (by omega) (by omega) (by omega) (by omega) (by omega) (by omega) (by omega)]
    exact a2 j hj mj
  · rw [c5]; exact a3 j h6 h32
  · rw [c8, r (140 + g') (by omega) (by omega) (by omega) (by omega) (by omega) (by omega) (by omega) (by omega) (by omega)]; exact a6
/-! hold -/
theorem gI {n N : Nat} (h : n < N) (hN : N ≤ 100000) : gIn (nI n) N = true := zIn (tN (by omega)) (by omega) (by omega)
def HQ (s g k : Nat) (μ μ' : gM) : Prop := (∀ a, a ≠ s + 3 → a ≠ s + 4 → a ≠ s + 5 → a ≠ s + 8 → a ≠ s + 12 → a ≠ s + 13 → a ≠ s + 14 → μ' a = μ a) ∧ μ' (s + 5) = upd (μ (s + 5)) g (μ (s + 5) g ||| ((1 : Int32) <<< (nI k &&& 31))) ∧ μ' (s + 12) = upd (μ (s + 12)) (6 * g + k) 0 ∧ μ' (s + 13) = upd (μ (s + 13)) (6 * g + k) (-1) ∧ μ' (s + 8) = upd (μ (s + 8)) g (μ (s + 8) g + 1) ∧ μ' (s + 14) = upd (μ (s + 14)) 4 (μ (s + 14) 4 + 1) ∧ LA (s + 3) (μ s 0) (nI g) (nI k) 0 μ μ'
theorem cHold {s g k : Nat} {μ : gM} (hg : g < 5) (hk : k < 6) (b : (0 ≤ (μ (s + 3) 0).toInt ∧ (μ (s + 3) 0).toInt ≤ 60) ∧ 0 ≤ (μ (s + 3) 1).toInt ∧ (μ (s + 3) 1).toInt ≤ 59) : ∃ μ', fX10_hold s (nI g) (nI k) μ = some μ' ∧ HQ s g k μ μ' := by
  unfold fX10_hold
  have gg : gIn (nI g) 5 = true := gI hg (by decide)
  have gm : gIn (nI (6 * g + k)) 30 = true := gI (by omega) (by decide)
  have cg : (nI g).toNatClampNeg = g := nI_clamp (by omega)
  have cm : (nI (6 * g + k)).toNatClampNeg = 6 * g + k := nI_clamp (by omega)
  simp only [zLt, zCk, o6f hg hk, gg, gm, cg, cm, ↓reduceIte]
  generalize eν : gUp (gUp (gUp (gUp (gUp μ (s + 5) g (μ (s + 5) g ||| ((1 : Int32) <<< (nI k &&& 31)))) (s + 12) (6 * g + k) 0) (s + 13) (6 * g + k) (-1)) (s + 8) g _) (s + 14) 4 _ = ν
  have w : ∀ a, a ≠ s + 5 → a ≠ s + 8 → a ≠ s + 12 → a ≠ s + 13 → a ≠ s + 14 → ν a = μ a := fun a h1 h2 h3 h4 h5 => by rw [← eν, zUp_ne _ h5, zUp_ne _ h2, zUp_ne _ h4, zUp_ne _ h3, zUp_ne _ h1]
  obtain ⟨μ', e, f, la⟩ := cAdd (p := s + 3) (t := ν s 0) (g := nI g) (k := nI k) (w := 0) (μ := ν) (by rw [w (s + 3) (by omega) (by omega) (by omega) (by omega) (by omega)]; exact b.1) (by rw [w (s + 3) (by omega) (by omega) (by omega) (by omega) (by omega)]; exact b.2)
  rw [e, zBd_some]
  rw [w s (by omega) (by omega) (by omega) (by omega) (by omega)] at la
  refine ⟨μ', rfl, fun a h1 h2 h3 h4 h5 h6 h7 => by rw [f a h1 (by omega), w a h3 h4 h5 h6 h7], ?_, ?_, ?_, ?_, ?_, la.cg (w _ (by omega) (by omega) (by omega) (by omega) (by omega)) (w _ (by omega) (by omega) (by omega) (by omega) (by omega))⟩
  · rw [f _ (by omega) (by omega), ← eν, zUp_ne _ (by omega), zUp_ne _ (by omega), zUp_ne _ (by omega), zUp_ne _ (by omega), zUp_row]
  · rw [f _ (by omega) (by omega), ← eν, zUp_ne _ (by omega), zUp_ne _ (by omega), zUp_ne _ (by omega), zUp_row, zUp_ne _ (by omega)]
  · rw [f _ (by omega) (by omega), ← eν, zUp_ne _ (by omega), zUp_ne _ (by omega), zUp_row, zUp_ne _ (by omega), zUp_ne _ (by omega)]
  · rw [f _ (by omega) (by omega), ← eν, zUp_ne _ (by omega), zUp_row, zUp_ne _ (by omega), zUp_ne _ (by omega), zUp_ne _ (by omega)]
  · rw [f _ (by omega) (by omega), ← eν, zUp_row, zUp_ne _ (by omega), zUp_ne _ (by omega), zUp_ne _ (by omega), zUp_ne _ (by omega)]
def HB (g k : Nat) (ξ ξ' : gM) : Prop := (∀ a, a ≠ 267 → a ≠ 272 → ξ' a = ξ a) ∧ ξ' 267 = upd (ξ 267) 22 (ξ 267 22 + 1) ∧ ξ' 272 (40 + (6 * g + k)) = 2 ∧ ξ' 272 (70 + (6 * g + k)) = 0 ∧ ξ' 272 (100 + (6 * g + k)) = 0 ∧ ξ' 272 (140 + g) = ξ 272 (140 + g) + 1 ∧ (∀ i, i < 245 → i ≠ 7 → i ≠ 40 + (6 * g + k) → i ≠ 70 + (6 * g + k) → i ≠ 100 + (6 * g + k) → i ≠ 140 + g → ξ' 272 i = ξ 272 i) ∧ LB (nI g) (nI k) 0 ξ ξ'
theorem mHold {g k : Nat} {ξ : gM} (hg : g < 5) (hk : k < 6) (b : 0 ≤ (ξ 272 7).toInt ∧ (ξ 272 7).toInt ≤ 60) : ∃ ξ', fX12_toHold (nI g) (nI k) ξ = some ξ' ∧ HB g k ξ ξ' := by
  unfold fX12_toHold
  have i40 : (40 : Int32) + nI (6 * g + k) = nI (40 + (6 * g + k)) := nI_add 40 _
  have i70 : (70 : Int32) + nI (6 * g + k) = nI (70 + (6 * g + k)) := nI_add 70 _
  have i100 : (100 : Int32) + nI (6 * g + k) = nI (100 + (6 * g + k)) := nI_add 100 _
  have i140 : (140 : Int32) + nI g = nI (140 + g) := nI_add 140 _
  have g40 : gIn (nI (40 + (6 * g + k))) 490 = true := gI (by omega) (by decide)
  have g70 : gIn (nI (70 + (6 * g + k))) 490 = true := gI (by omega) (by decide)
  have g100 : gIn (nI (100 + (6 * g + k))) 490 = true := gI (by omega) (by decide)
  have g140 : gIn (nI (140 + g)) 490 = true := gI (by omega) (by decide)
  have c40 : (nI (40 + (6 * g + k))).toNatClampNeg = 40 + (6 * g + k) := nI_clamp (by omega)
  have c70 : (nI (70 + (6 * g + k))).toNatClampNeg = 70 + (6 * g + k) := nI_clamp (by omega)
  have c100 : (nI (100 + (6 * g + k))).toNatClampNeg = 100 + (6 * g + k) := nI_clamp (by omega)
  have c140 : (nI (140 + g)).toNatClampNeg = 140 + g := nI_clamp (by omega)
  simp only [zLt, zCk, mOf _ hg hk, zBd_some, i40, i70, i100, i140, g40, g70, g100, g140, c40, c70, c100, c140, ↓reduceIte]
  have r140 : gUp (gUp (gUp ξ 272 (40 + (6 * g + k)) 2) 272 (70 + (6 * g + k)) 0) 272 (100 + (6 * g + k)) 0 272 (140 + g) = ξ 272 (140 + g) := by rw [zUp_slot _ (by omega), zUp_slot _ (by omega), zUp_slot _ (by omega)]
  rw [r140]
  generalize eν : gUp (gUp (gUp (gUp ξ 272 (40 + (6 * g + k)) 2) 272 (70 + (6 * g + k)) 0) 272 (100 + (6 * g + k)) 0) 272 (140 + g) (ξ 272 (140 + g) + 1) = ν
  have wi : ∀ i, i ≠ 40 + (6 * g + k) → i ≠ 70 + (6 * g + k) → i ≠ 100 + (6 * g + k) → i ≠ 140 + g → ν 272 i = ξ 272 i := fun i h1 h2 h3 h4 => by rw [← eν, zUp_slot _ h4, zUp_slot _ h3, zUp_slot _ h2, zUp_slot _ h1]
  have wa : ∀ a, a ≠ 272 → ν a = ξ a := fun a ha => by rw [← eν, zUp_ne _ ha, zUp_ne _ ha, zUp_ne _ ha, zUp_ne _ ha]
  have w2 : gUp ν 267 22 (ν 267 22 + 1) 272 = ν 272 := zUp_ne _ (by decide)
  obtain ⟨ξ', e, f, fi, lb⟩ := mLogs (g := nI g) (k := nI k) (w := 0) (ξ := gUp ν 267 22 (ν 267 22 + 1)) (by rw [w2, wi 7 (by omega) (by omega) (by omega) (by omega)]; exact b)
  rw [e, zBd_some]
  rw [w2] at fi
  refine ⟨ξ', rfl, fun a h1 h2 => by rw [f a h2, zUp_ne _ h1, wa a h2], ?_, ?_, ?_, ?_, ?_, fun i h1 h2 h3 h4 h5 h6 => by rw [fi i h1 h2, wi i h3 h4 h5 h6], lb.cg ?_ ?_ (fun i hi => ?_)⟩
  · rw [f 267 (by decide), zUp_row, wa 267 (by decide)]
  · rw [fi _ (by omega) (by omega), ← eν, zUp_slot _ (by omega), zUp_slot _ (by omega), zUp_slot _ (by omega), zUp_same]
  · rw [fi _ (by omega) (by omega), ← eν, zUp_slot _ (by omega), zUp_slot _ (by omega), zUp_same]
  · rw [fi _ (by omega) (by omega), ← eν, zUp_slot _ (by omega), zUp_same]
  · rw [fi _ (by omega) (by omega), ← eν, zUp_same]
  · rw [w2, wi 0 (by omega) (by omega) (by omega) (by omega)]
  · rw [w2, wi 7 (by omega) (by omega) (by omega) (by omega)]
  · rw [w2, wi i (by omega) (by omega) (by omega) (by omega)]
theorem HQ.dg {s g k : Nat} {μ μ' : gM} (h : HQ s g k μ μ') (hk : k < 6) : DG s g μ μ' := by
  obtain ⟨f, h5, h12, h13, h8, h14, -⟩ := h
  refine ⟨fun a h0 h1 h2 h3 h4 h5 h6 h7 => f a h1 h2 h3 h4 h5 h6 h7, fun i _ _ _ => by rw [f s (by omega) (by omega) (by omega) (by omega) (by omega) (by omega) (by omega)], fun j hj => ⟨by rw [h5, pk_un hj], by rw [h8, pk_un hj]⟩, fun j hj => ⟨by rw [h12, pk_un (by omega)], by rw [h13, pk_un (by omega)]⟩, fun i hi => by rw [h14, pk_un hi]⟩
theorem HB.eg {g k : Nat} {ξ ξ' : gM} (h : HB g k ξ ξ') (hk : k < 6) : EG g ξ ξ' := by
  obtain ⟨f, h7, -, -, -, -, fi, -⟩ := h
  exact ⟨fun a h0 h1 _ => f a h0 h1, ⟨fun i hi => by rw [h7, pk_un hi], fun _ => fi 9 (by omega) (by omega) (by omega) (by omega) (by omega) (by omega)⟩, fun i h0 h1 h2 h3 h4 h5 h6 h7 h8 => fi i h0 h3 (by omega) (by omega) (by omega) h8⟩
theorem btOr {x : Int32} {k : Nat} (hk : k < 32) : (bt (x ||| ((1 : Int32) <<< (nI k &&& 31))) k = true) ∧ ∀ j, j < 32 → j ≠ k → bt (x ||| ((1 : Int32) <<< (nI k &&& 31))) j = bt x j := by
  refine ⟨?_, fun j hj ne => ?_⟩
  · rw [bt_or, bt_one k hk k hk, decide_eq_true rfl, Bool.or_true]
  · rw [bt_or, bt_one k hk j hj, decide_eq_false ne, Bool.or_false]
theorem btAnd {x : Int32} {k : Nat} (hk : k < 32) : (bt (x &&& (((1 : Int32) <<< (nI k &&& 31)) ^^^ (-1 : Int32))) k = false) ∧ ∀ j, j < 32 → j ≠ k → bt (x &&& (((1 : Int32) <<< (nI k &&& 31)) ^^^ (-1 : Int32))) j = bt x j := by
  refine ⟨?_, fun j hj ne => ?_⟩
  · rw [bt_and, bt_not _ hk, bt_one k hk k hk, decide_eq_true rfl, Bool.not_true, Bool.and_false]
  · rw [bt_and, bt_not _ hj, bt_one k hk j hj, decide_eq_false ne, Bool.not_false, Bool.and_true]
theorem pHold {s g k : Nat} {F : Prop} {c : Int32} {X : Nat → Prop} {lo : Nat → Int} {μ ξ : gM} (hs : 34 ≤ s) (h : CTX s F c μ ξ) (gr : GRP s g X lo μ ξ) (m : mem (ξ 269) g k) (up : bt (ξ 272 1) k = true) (hl : lo k ≤ 0) : ∃ μ' ξ', fX10_hold s (nI g) (nI k) μ = some μ' ∧ fX12_toHold (nI g) (nI k) ξ = some ξ' ∧ HQ s g k μ μ' ∧ HB g k ξ ξ' ∧ CTX s F c μ' ξ' ∧ GRP s g (fun j => X j ∧ j ≠ k) lo μ' ξ' := by
  have hg := m.1
  have hk := m.2.1
  obtain ⟨-, ⟨n0, -, -, -, -, n5⟩, -, a1, a2, a3⟩ := id h
  obtain ⟨μ', e1, q⟩ := cHold hg hk a1
  obtain ⟨ξ', e2, r⟩ := mHold hg hk a2
  have dg := q.dg hk
  have eg := r.eg hk
  obtain ⟨q0, q5, q12, q13, q8, q14, la⟩ := id q
  obtain ⟨r0, r7, r40, r70, r100, r140, ri, lb⟩ := id r
  refine ⟨μ', ξ', e1, e2, q, r, h.mv hs hg dg eg ?_ ⟨la.b, lb.b, fun f => ?_⟩, gr.one m (r0 269 (by decide) (by decide)) (ri 1 (by omega) (by omega) (by omega) (by omega) (by omega) (by omega)) (fun j hj ne => ?_) (fun j hj ne => ?_) (fun j hj ne => ?_) (fun j ne w x => w ⟨x, ne⟩) (fun j _ => Int.le_refl _) (fun _ => ?_) ?_⟩
  · rw [q0 s (by omega) (by omega) (by omega) (by omega) (by omega) (by omega) (by omega), ri 9 (by omega) (by omega) (by omega) (by omega) (by omega) (by omega)]; exact n5
  · obtain ⟨f1, f2, f3, f4⟩ := a3 f
    refine ⟨f1.add n0 la lb, ?_, ?_, ?_⟩
    · rw [q0 s (by omega) (by omega) (by omega) (by omega) (by omega) (by omega) (by omega), ri 5 (by omega) (by omega) (by omega) (by omega) (by omega) (by omega)]; exact f2
    · rw [q0 s (by omega) (by omega) (by omega) (by omega) (by omega) (by omega) (by omega), ri 6 (by omega) (by omega) (by omega) (by omega) (by omega) (by omega)]; exact f3
    · rw [q14, pk_us, r7, pk_us, f4, Int32.add_assoc, Int32.add_assoc, Int32.add_comm c 1]
  · rw [q5, pk_us, (btOr (by omega)).2 j hj ne]
  · rw [q12, q13, pk_un (by omega), pk_un (by omega)]; exact ⟨rfl, rfl⟩
  · exact ⟨ri _ (by omega) (by omega) (by omega) (by omega) (by omega) (by omega), ri _ (by omega) (by omega) (by omega) (by omega) (by omega) (by omega), ri _ (by omega) (by omega) (by omega) (by omega) (by omega) (by omega)⟩
  · have z : (0 : Int32).toInt = 0 := rfl
    refine ⟨by rw [q12, pk_us, r70], by rw [q13, pk_us, r100]; rfl, by rw [r70, z]; omega, fun _ => by rw [r70, z]; exact hl, Or.inr ⟨by rw [ri 1 (by omega) (by omega) (by omega) (by omega) (by omega) (by omega)]; exact up, Or.inr ⟨by rw [q5, pk_us, (btOr (by omega)).1], r40⟩⟩⟩
  · rw [q8, pk_us, r140, gr.2.2.2]
/-- a group of which nothing has changed -/
theorem GRP.cg {s g : Nat} {X : Nat → Prop} {lo : Nat → Int} {μ ξ μ' ξ' : gM} (h : GRP s g X lo μ ξ) (hg : g < 5) (c : ∀ a, a = s + 5 ∨ a = s + 8 ∨ a = s + 12 ∨ a = s + 13 → μ' a = μ a) (e9 : ξ' 269 = ξ 269) (e : ∀ i, i = 1 ∨ (40 ≤ i ∧ i < 130) ∨ (140 ≤ i ∧ i < 145) → ξ' 272 i = ξ 272 i) : GRP s g X lo μ' ξ' := by
  obtain ⟨a1, a2, a3, a6⟩ := h
  refine ⟨fun j mj hj => ?_, fun j hj mj => ?_, fun j h6 h32 => ?_, ?_⟩
  · rw [e9] at mj
    have j6 := mj.2.1
    have := a1 j mj hj
    unfold ST at *
    rw [c (s + 12) (by omega), c (s + 13) (by omega), c (s + 5) (by omega), e 1 (by omega), e (40 + (6 * g + j)) (by omega), e (70 + (6 * g + j)) (by omega), e (100 + (6 * g + j)) (by omega)]
    exact this
  · rw [e9] at mj
    rw [c (s + 5) (by omega), e (40 + (6 * g + j)) (by omega)]
    exact a2 j hj mj
  · rw [c (s + 5) (by omega)]; exact a3 j h6 h32
  · rw [c (s + 8) (by omega), e (140 + g) (by omega)]; exact a6
