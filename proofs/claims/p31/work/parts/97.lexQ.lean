/-! from the tape to both drafts -/
def tb (μ : gM) (i : Nat) : Nat := (μ 2 i).toInt.toNat
theorem clr2 {p m : Nat} {y : Int32} {μ : gM} (h : ¬ (3 : Int32) ≤ y) (g : gIn y 3 = true) : fX1_clear_l2 p (m + 1) y μ = fX1_clear_l2 p m (y + 1) (gUp μ (p + 1) y.toNatClampNeg 0) := by
  rw [fX1_clear_l2, if_neg h]
  simp only [zCk, zLt]
  rw [if_pos g]
theorem clr22 {p m : Nat} {y : Int32} {μ : gM} (h : ¬ (5 : Int32) ≤ y) (g : gIn y 5 = true) : fX1_clear_l22 p (m + 1) y μ = fX1_clear_l22 p m (y + 1) (gUp μ (p + 7) y.toNatClampNeg 0) := by
  rw [fX1_clear_l22, if_neg h]
  simp only [zCk, zLt]
  rw [if_pos g]
theorem cClear {μ : gM} : ∃ ν, fX1_clear 18 μ = some ν ∧ (∀ j, j < 3 → ν 19 j = 0) ∧ (∀ g, g < 5 → ν 25 g = 0) ∧ ν 18 10 = 0 ∧ ∀ a, a ≠ 18 → a ≠ 19 → a ≠ 25 → ν a = μ a := by
  refine ⟨gUp (gUp (gUp (gUp (gUp (gUp (gUp (gUp (gUp μ 19 0 0) 19 1 0) 19 2 0) 25 0 0) 25 1 0) 25 2 0) 25 3 0) 25 4 0) 18 10 0, ?_, fun j hj => ?_, fun j hj => ?_, ?_, fun a h1 h2 h3 => ?_⟩
  · unfold fX1_clear
    rw [show (100000 : Nat) = 99996 + 1 + 1 + 1 + 1 from rfl, clr2 (by decide) (by decide), clr2 (by decide) (by decide), clr2 (by decide) (by decide), fX1_clear_l2, if_pos (by decide)]
    rw [show (100000 : Nat) = 99994 + 1 + 1 + 1 + 1 + 1 + 1 from rfl, clr22 (by decide) (by decide), clr22 (by decide) (by decide), clr22 (by decide) (by decide), clr22 (by decide) (by decide), clr22 (by decide) (by decide), fX1_clear_l22, if_pos (by decide)]
    rfl
  · rw [zUp_ne _ (by decide), zUp_ne _ (by decide), zUp_ne _ (by decide), zUp_ne _ (by decide), zUp_ne _ (by decide), zUp_ne _ (by decide), zUp_at, if_pos rfl, zUp_at, if_pos rfl, zUp_at, if_pos rfl]
    have : j = 0 ∨ j = 1 ∨ j = 2 := by omega
    rcases this with rfl | rfl | rfl <;> rfl
  · rw [zUp_ne _ (by decide), zUp_at, if_pos rfl, zUp_at, if_pos rfl, zUp_at, if_pos rfl, zUp_at, if_pos rfl, zUp_at, if_pos rfl]
    have : j = 0 ∨ j = 1 ∨ j = 2 ∨ j = 3 ∨ j = 4 := by omega
    rcases this with rfl | rfl | rfl | rfl | rfl <;> rfl
  · rw [zUp_same]
  · rw [zUp_ne _ h1, zUp_ne _ h3, zUp_ne _ h3, zUp_ne _ h3, zUp_ne _ h3, zUp_ne _ h3, zUp_ne _ h2, zUp_ne _ h2, zUp_ne _ h2]
theorem cOpen {b : Nat → Nat} {n : Nat} {μ : gM} (h : CT b n μ) : ∃ s ν, fX7_open μ = some ν ∧ Skp b n 0 s ∧ CS b n s (-1) ν ∧ CF μ ν ∧ ν 1 7 = 0 ∧ ν 1 8 = -1 := by
  unfold fX7_open
  simp only [zLt]
  generalize e4 : gUp (gUp (gUp (gUp μ 1 3 0) 1 4 3) 1 7 0) 1 8 (-1) = μ4
  have w : ∀ a, a ≠ 1 → μ4 a = μ a := fun a ha => by rw [← e4, zUp_ne _ ha, zUp_ne _ ha, zUp_ne _ ha, zUp_ne _ ha]
  have w2 : μ4 1 2 = μ 1 2 := by rw [← e4, zUp_slot _ (by decide), zUp_slot _ (by decide), zUp_slot _ (by decide), zUp_slot _ (by decide)]
  have w3 : μ4 1 3 = 0 := by rw [← e4, zUp_slot _ (by decide), zUp_slot _ (by decide), zUp_slot _ (by decide), zUp_same]
  have w4 : μ4 1 4 = 3 := by rw [← e4, zUp_slot _ (by decide), zUp_slot _ (by decide), zUp_same]
  have w7 : μ4 1 7 = 0 := by rw [← e4, zUp_slot _ (by decide), zUp_same]
  have w8 : μ4 1 8 = -1 := by rw [← e4, zUp_same]
  have hc : CT b n μ4 := ⟨by rw [w2]; exact h.1, h.2.1, fun i hi => by rw [w 2 (by decide)]; exact h.2.2 i hi⟩
  obtain ⟨ν, eν, s, k1, k2, k3⟩ := cAdvance (p := 0) hc (by rw [w3]; rfl) (Nat.zero_le _)
  have gl : glue (μ4 1 4) 0 = -1 := by unfold glue; rw [w4, if_neg (by decide)]
  rw [gl] at k2
  rw [eν, zBd_some]
  exact ⟨s, ν, rfl, k1, k2, ⟨fun a ha => by rw [k3.1 a ha, w a ha], by rw [k3.2.1, w2]⟩, by rw [k3.2.2.1, w7], by rw [k3.2.2.2, w8]⟩
/-- the reference turns the tape into a text -/
theorem mBegins {ξ : gM} : ∃ ζ, fX12_begins ξ = some ζ ∧ (∀ a, a ≠ 267 → ζ a = ξ a) ∧ (∀ i, i ≠ 2 → i ≠ 3 → ¬ pF i → ζ 267 i = ξ 267 i) ∧ ζ 267 2 = 0 ∧ ζ 267 3 = ξ 267 2 ∧ ζ 267 4 = 0 ∧ ζ 267 5 = -1 ∧ ζ 267 6 = 0 ∧ ζ 267 7 = -1 ∧ ζ 267 11 = ξ 267 11 := by
  unfold fX12_begins
  simp only [zLt]
  refine ⟨_, rfl, fun a ha => ?_, fun i h2 h3 hf => ?_, ?_, ?_, ?_, ?_, ?_, ?_, ?_⟩
  · rw [zUp_ne _ ha, zUp_ne _ ha, zUp_ne _ ha, zUp_ne _ ha, zUp_ne _ ha, zUp_ne _ ha]
  · unfold pF at hf
    rw [zUp_slot _ (by omega), zUp_slot _ (by omega), zUp_slot _ (by omega), zUp_slot _ (by omega), zUp_slot _ h2, zUp_slot _ h3]
  · rw [zUp_slot _ (by decide), zUp_slot _ (by decide), zUp_slot _ (by decide), zUp_slot _ (by decide), zUp_same]
  · rw [zUp_slot _ (by decide), zUp_slot _ (by decide), zUp_slot _ (by decide), zUp_slot _ (by decide), zUp_slot _ (by decide), zUp_same]
  · rw [zUp_slot _ (by decide), zUp_slot _ (by decide), zUp_slot _ (by decide), zUp_same]
  · rw [zUp_slot _ (by decide), zUp_slot _ (by decide), zUp_same]
  · rw [zUp_slot _ (by decide), zUp_same]
  · rw [zUp_same]
  · rw [zUp_slot _ (by decide), zUp_slot _ (by decide), zUp_slot _ (by decide), zUp_slot _ (by decide), zUp_slot _ (by decide), zUp_slot _ (by decide)]
theorem mZero : ∀ (m k : Nat) (y : Int32) (ξ : gM), y.toInt = k → k ≤ 209 → 209 < k + m → ∃ ζ, fX12_net_l11 m y ξ = fX12_net_l33 100000 (0 : Int32) ζ ∧ (∀ a, a ≠ 270 → ζ a = ξ a) ∧ (∀ j, k ≤ j → j < 209 → ζ 270 j = 0) ∧ ∀ j, j < k → ζ 270 j = ξ 270 j := by
  intro m
  induction m with
  | zero =>
    intro k y ξ hy hk gm
    exact absurd gm (by omega)
  | succ m ih =>
    intro k y ξ hy hk gm
    have z9 : (209 : Int32).toInt = 209 := rfl
    rw [fX12_net_l11]
    by_cases c : (209 : Int32) ≤ y
    · have c' := Int32.le_iff_toInt_le.mp c
      rw [if_pos c]
      exact ⟨ξ, rfl, fun _ _ => rfl, fun j h1 h2 => absurd h1 (by omega), fun _ _ => rfl⟩
    · have c' : ¬ (209 : Int32).toInt ≤ y.toInt := fun w => c (Int32.le_iff_toInt_le.mpr w)
      rw [if_neg c]
      simp only [zCk, zLt]
      rw [if_pos (zIn hy (by omega) (by omega)), cl_of hy]
      have nx : (y + 1).toInt = ((k + 1 : Nat) : Int) := (iA hy (iL (1) (1) rfl) (by omega) (by omega)).trans (by omega)
      obtain ⟨ζ, e, f1, f2, f3⟩ := ih (k + 1) (y + 1) (gUp ξ 270 k 0) nx (by omega) (by omega)
      refine ⟨ζ, e, fun a ha => by rw [f1 a ha, zUp_ne _ ha], fun j h1 h2 => ?_, fun j hj => by rw [f3 j (by omega), zUp_slot _ (by omega)]⟩
      by_cases ej : j = k
      · rw [f3 j (by omega), ej, zUp_same]
      · exact f2 j (by omega) h2
/-- both read the tape alike -/
def ReadQ (μ ξ : gM) (v : Int32) (μ' ξ' : gM) : Prop := (∀ a, a ≠ 1 → a < 18 ∨ 30 < a → μ' a = μ a) ∧ μ' 1 2 = μ 1 2 ∧ (∀ a, a ≠ 267 → a ≠ 270 → ξ' a = ξ a) ∧ (∀ i, i ≠ 0 → i ≠ 2 → i ≠ 3 → ¬ pF i → ξ' 267 i = ξ 267 i) ∧ ξ' 267 2 = 0 ∧ ((v = 1 ∧ ξ' 267 6 = 0 ∧ DR μ' ξ' ∧ μ' 1 7 = 0 ∧ μ' 1 8 = -1 ∧ K 0 ξ ξ') ∨ (v = 0 ∧ ξ' 267 6 ≠ 0 ∧ μ' 1 7 = ξ' 267 6 ∧ μ' 1 8 = ξ' 267 7))
theorem tapeC {μ : gM} (hb : Base μ) (ht : TAPE μ) : CT (tb μ) (μ 1 2).toInt.toNat μ := by
  have hl := hb.1.len
  refine ⟨by omega, by omega, fun i hi => ?_⟩
  obtain ⟨⟨q1, q2⟩, -⟩ := ht i hi
  unfold tb
  omega
theorem tapeM {μ ξ : gM} (hb : Base μ) (ht : TAPE μ) (h8 : ξ 268 = μ 268) (h3 : ξ 267 3 = μ 1 2) : MT (tb μ) (μ 1 2).toInt.toNat ξ := by
  have hl := hb.1.len
  refine ⟨by rw [h3]; omega, by omega, fun i hi => ?_⟩
  obtain ⟨⟨q1, q2⟩, q3, q4⟩ := ht i hi
  unfold tb
  rw [h8]
  omega
theorem DR_0 {μ ξ : gM} (c : ∀ j, j < 3 → μ 19 j = 0) (d : ∀ g, g < 5 → μ 25 g = 0) (t : μ 18 10 = 0) (z : ∀ j, j < 209 → ξ 270 j = 0) : DR μ ξ := by
  have nt : ∀ r, r < 3 → NT 18 270 r μ ξ := fun r hr => by
    refine ⟨?_, ?_, fun k hk => ?_⟩
    · show μ 19 r = ξ 270 r
      rw [c r hr, z r (by omega)]
    · rw [z r (by omega)]; exact ⟨by decide, by decide⟩
    · rw [z r (by omega)] at hk
      exact absurd hk (show ¬ (k : Int) < 0 by omega)
  refine ⟨⟨nt 0 (by decide), nt 1 (by decide), nt 2 (by decide)⟩, fun g hg => ?_, fun g k hg hk w => ?_, 0, 0, by decide, by decide, by rw [z 0 (by decide)]; decide, z 2 (by decide), z 3 (by decide), t, fun g hg => absurd hg (by omega), fun g hg => absurd hg (by omega)⟩
  · rw [d g hg, z (48 + g) (by omega)]
    exact ⟨rfl, by decide, by decide⟩
  · rw [z (48 + g) (by omega)] at w
    unfold bitAt at w
    have b0 : ∀ k : Nat, k < 6 → ¬ (((0 : Int32) >>> (nI k &&& 31)) &&& (1 : Int32)) = (1 : Int32) := by decide
    exact absurd w (b0 k hk)
theorem pReadAll {μ ξ : gM} (hb : Base μ) (ht : TAPE μ) (ho : ∀ k, k < 21 → μ 3 k = gOwn k) (h8 : ξ 268 = μ 268) (h2 : ξ 267 2 = μ 1 2) (kk : K (ξ 267 2) ξ ξ) : ∃ v μ' ξ', fX2_read μ = some (v, μ') ∧ fX12_net ξ = fX12_net_n92 ξ' ∧ ReadQ μ ξ v μ' ξ' := by
  have hl := hb.1.len
  obtain ⟨μ1, c0, c1, c2, c3, c4⟩ := cClear (μ := μ)
  have hc1 : CT (tb μ) (μ 1 2).toInt.toNat μ1 := by
    have := tapeC hb ht
    unfold CT at *
    rw [c4 1 (by decide) (by decide) (by decide), c4 2 (by decide) (by decide) (by decide)]
    exact this
  obtain ⟨s, μ2, o0, o1, o2, o3, o4, o5⟩ := cOpen hc1
  unfold fX2_read fX12_net
  simp only [zLt]
  obtain ⟨ζ, b0, b1, b2, b3, b4, b5, b6, b7, b8, b9⟩ := mBegins (ξ := gUp ξ 267 0 0)
  obtain ⟨ξ1, z0, z1, z2, -⟩ := mZero 100000 0 (0 : Int32) ζ rfl (by decide) (by decide)
  rw [c0, zBd_some, o0, zBd_some, b0, zBd_some, z0]
  have x267 : ξ1 267 = ζ 267 := z1 267 (by decide)
  have x3 : ξ1 267 3 = μ 1 2 := by rw [x267, b4, zUp_slot _ (by decide), h2]
  have x8 : ξ1 268 = μ 268 := by rw [z1 268 (by decide), b1 268 (by decide), zUp_ne _ (by decide), h8]
  have xo : ∀ a, a ≠ 267 → a ≠ 270 → ξ1 a = ξ a := fun a h1 h2 => by rw [z1 a h2, b1 a h1, zUp_ne _ h1]
  have xi : ∀ i, i ≠ 0 → i ≠ 2 → i ≠ 3 → ¬ pF i → ξ1 267 i = ξ 267 i := fun i h0 h1 h2 hf => by rw [x267, b2 i h1 h2 hf, zUp_slot _ h0]
  have hm : MT (tb μ) (μ 1 2).toInt.toNat ξ1 := tapeM hb ht x8 x3
  have hc2 : CT (tb μ) (μ 1 2).toInt.toNat μ2 := by
    unfold CT at *
    rw [o3.2, o3.1 2 (by decide)]
    exact hc1
  have sim : SIM (tb μ) (μ 1 2).toInt.toNat s (-1) μ2 ξ1 := by
    refine ⟨hc2, o2, ⟨fun k hk => by rw [o3.1 3 (by decide), c4 3 (by decide) (by decide) (by decide)]; exact ho k hk, o4, o5⟩, hm, ⟨0, by rw [x267, b5]; rfl, Nat.zero_le _, o1, by rw [x267, b6]; decide⟩, ?_, by rw [x267, b7]⟩
    rw [x267, b6]
    have e1 : (-1 : Int32).toInt = -1 := rfl
    omega
  have dr : DR μ2 ξ1 := DR_0 (fun j hj => by rw [o3.1 19 (by decide)]; exact c1 j hj) (fun g hg => by rw [o3.1 25 (by decide)]; exact c2 g hg) (by rw [o3.1 18 (by decide)]; exact c3) (fun j hj => z2 j (Nat.zero_le _) hj)
  have n0' : NOK (ξ1 270) := by
    refine n0.eq (fun j hj => z2 j (Nat.zero_le _) hj)
  have k1 : K 0 ξ ξ1 := by
    obtain ⟨-, g2, ⟨d1, d2, d3, d4⟩, e1, e2, e3, e4, e5⟩ := kk
    refine ⟨⟨fun a ha => xo a (by omega) (by omega), xi 8 (by decide) (by decide) (by decide) (by unfold pF; decide), xi 9 (by decide) (by decide) (by decide) (by unfold pF; decide), xi 15 (by decide) (by decide) (by decide) (by unfold pF; decide)⟩, ⟨by rw [x267, b3], by decide, by decide⟩, ⟨by rw [x3]; exact hl, by rw [x267, b5]; exact ⟨by decide, by decide⟩, by rw [x267, b9, zUp_slot _ (by decide)]; exact d3, by rw [xi 20 (by decide) (by decide) (by decide) (by unfold pF; decide)]; exact d4⟩, ?_⟩
    unfold KR
    rw [xo 269 (by decide) (by decide), xo 271 (by decide) (by decide), xo 272 (by decide) (by decide), xo 273 (by decide) (by decide)]
    exact ⟨e1, n0', e3, e4, e5⟩
  obtain ⟨v, μ', ξ', r1, r2, r3, r4⟩ := pRead_l 100000 0 s (-1) (0 : Int32) μ2 ξ1 rfl (by decide) (by decide) sim dr k1
  refine ⟨v, μ', ξ', r1, r2, fun a h1 h2 => ?_, ?_, fun a h1 h2 => by rw [r3.2.1.1 a h1 h2, xo a h1 h2], fun i h0 h1 h2 hf => by rw [r3.2.1.2 i hf, xi i h0 h1 h2 hf], ?_, ?_⟩
  · rw [r3.1.1 a h1 h2, o3.1 a h1, c4 a (by omega) (by omega) (by omega)]
  · rw [r3.1.2, o3.2, c4 1 (by decide) (by decide) (by decide)]
  · rw [r3.2.1.2 2 (by unfold pF; decide), x267, b3]
  · rcases r3.2.2 with ⟨rfl, ⟨s', g', sm⟩, dr'⟩ | ⟨rfl, f1, f2, f3, f4⟩
    · exact Or.inl ⟨rfl, sm.2.2.2.2.2.2, dr', sm.2.2.1.2.1, sm.2.2.1.2.2, r4 rfl⟩
    · exact Or.inr ⟨rfl, f3, f1, f2⟩
