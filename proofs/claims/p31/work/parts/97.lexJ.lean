/-! with a fault the reference does nothing more -/
def BF (ξ ζ : gM) : Prop := MF (fun i => i = 4 ∨ i = 12 ∨ i = 16) ξ ζ
theorem BF.rf (ξ : gM) : BF ξ ξ := MF.rf _
theorem BF.tr {ξ ζ χ : gM} (h : BF ξ ζ) (g : BF ζ χ) : BF ξ χ := MF.tr h g (fun _ w => w) (fun _ w => w)
theorem BF.bad {ξ ζ : gM} (h : BF ξ ζ) : ζ 267 6 = ξ 267 6 := h.2 6 (by omega)
theorem FLT.bf {b : Nat → Nat} {n : Nat} {μ ξ ζ : gM} (h : FLT b n μ ξ) (g : BF ξ ζ) (m : MP b n ζ) : FLT b n μ ζ := ⟨by rw [g.2 6 (by omega)]; exact h.1, by rw [g.2 7 (by omega)]; exact h.2.1, by rw [g.2 6 (by omega)]; exact h.2.2.1, m⟩
theorem bAsks {w : Int32} {ξ : gM} (hb : ξ 267 6 ≠ 0) : fX12_asks w ξ = some ξ := by unfold fX12_asks; rw [mFine0 hb, zBd_some, if_pos rfl]
theorem bTakes {w : Int32} {ξ : gM} (hb : ξ 267 6 ≠ 0) : fX12_takes w ξ = some (0, ξ) := by
  unfold fX12_takes fX12_isWord
  rw [mFine0 hb, zBd_some, if_pos rfl, zBp_some, if_pos rfl]
theorem bSign {w : Int32} {ξ : gM} (hb : ξ 267 6 ≠ 0) : fX12_needsSign w ξ = some ξ := by unfold fX12_needsSign; rw [mFine0 hb, zBd_some, if_pos rfl]
theorem bNum_l13 {b : Nat → Nat} {n s : Nat} {a1 a2 : Int32} : ∀ (m l : Nat) (y3 y4 : Int32) (ξ : gM), MT b n ξ → ξ 267 6 ≠ 0 → y3.toInt = s → y4.toInt = l → s + l ≤ n → n < s + l + m → fX12_number_l13 m a1 a2 y3 y4 ξ = some (a1, ξ) := by
  intro m
  induction m with
  | zero =>
    intro l y3 y4 ξ h hb h3 h4 hl gm
    exact absurd gm (by omega)
  | succ m ih =>
    intro l y3 y4 ξ h hb h3 h4 hl gm
    have hn5 := h.2.1
    rw [fX12_number_l13]
    have qk : (y3 + y4).toInt = ((s + l : Nat) : Int) := (iA h3 h4 (by omega) (by omega)).trans (by omega)
    obtain ⟨x, ex, px⟩ := mDigit h qk
    rw [ex, zBd_some]
    by_cases c : x = 0
    · rw [if_pos c, mFine0 hb, zBd_some, if_pos rfl]
      unfold fX12_number_n60
      rw [mFine0 hb, zBd_some, if_pos rfl]
    · rw [if_neg c]
      have hl1 : s + l < n := by
        rcases px with p | p
        · exact p.2.1
        · exact absurd p.1 c
      simp only [zLt]
      exact ih (l + 1) y3 (y4 + 1) ξ h hb h3 ((iA h4 (iL (1) (1) rfl) (by omega) (by omega)).trans (by omega)) (by omega) (by omega)
theorem SIM.mp {b : Nat → Nat} {n s : Nat} {g : Int} {μ ξ : gM} (h : SIM b n s g μ ξ) : MP b n ξ := by
  obtain ⟨p, q1, q2, -⟩ := h.2.2.2.2.1
  exact ⟨h.2.2.2.1, p, q1, q2⟩
theorem bNumber {b : Nat → Nat} {n : Nat} {a1 a2 : Int32} {ξ : gM} (h : MP b n ξ) (hb : ξ 267 6 ≠ 0) : ∃ ζ, fX12_number a1 a2 ξ = some (a1, ζ) ∧ BF ξ ζ ∧ MP b n ζ := by
  obtain ⟨hm, p, q1, q2⟩ := h
  have hn5 := hm.2.1
  obtain ⟨⟨x1, μ2⟩, e2, s, k1, k2, k3, k4⟩ := mNext hm q1 q2
  have k2 : x1.toInt = s := k2
  have k3 : (μ2 267 4).toInt = s := k3
  have k4 : MF p4 ξ μ2 := k4
  unfold fX12_number
  rw [e2, zBp_some]
  simp only [zLt]
  generalize e3 : gUp μ2 267 12 x1 = μ3
  have f3 : BF ξ μ3 := k4.tr (Q := fun i => i = 4 ∨ i = 12 ∨ i = 16) (by rw [← e3]; exact MF.up _ (by omega)) (fun i w => by unfold p4 at w; omega) (fun _ w => w)
  have h3 : MT b n μ3 := hm.mf f3 (by omega)
  have a3 : (μ3 267 4).toInt = s := by rw [← e3, zUp_slot _ (by decide)]; exact k3
  have sn : s ≤ n := k1.2.1
  exact ⟨μ3, bNum_l13 100000 0 x1 (0 : Int32) μ3 h3 (by rw [f3.bad]; exact hb) k2 rfl (by omega) (by omega), f3, h3, s, a3, sn⟩
theorem bOne {b : Nat → Nat} {n q : Nat} {a : Int32} {ξ : gM} (h : MP b n ξ) (hb : ξ 267 6 ≠ 0) : ∃ ζ, fX12_oneRead q a ξ = some (-1, ζ) ∧ BF ξ ζ ∧ MP b n ζ := by
  obtain ⟨hm, p, q1, q2⟩ := h
  have hn5 := hm.2.1
  obtain ⟨⟨x1, μ2⟩, e2, s, k1, k2, k3, k4⟩ := mNext hm q1 q2
  have k3 : (μ2 267 4).toInt = s := k3
  have k4 : MF p4 ξ μ2 := k4
  unfold fX12_oneRead
  rw [e2, zBp_some]
  simp only [zLt]
  generalize e3 : gUp μ2 267 16 x1 = μ3
  have f3 : BF ξ μ3 := k4.tr (Q := fun i => i = 4 ∨ i = 12 ∨ i = 16) (by rw [← e3]; exact MF.up _ (by omega)) (fun i w => by unfold p4 at w; omega) (fun _ w => w)
  have h3 : MT b n μ3 := hm.mf f3 (by omega)
  have a3 : (μ3 267 4).toInt = s := by rw [← e3, zUp_slot _ (by decide)]; exact k3
  have b3 : μ3 267 6 ≠ 0 := by rw [f3.bad]; exact hb
  rw [mFine0 b3, zBd_some, if_pos rfl]
  unfold fX12_oneRead_n26
  rw [mFine0 b3, zBd_some, if_pos rfl]
  exact ⟨μ3, rfl, f3, h3, s, a3, k1.2.1⟩
theorem bN73 {y1 y2 y3 y4 z0 : Int32} {ξ : gM} (hb : ξ 267 6 ≠ 0) : fX12_groupRead_n73 y1 y2 y3 y4 z0 ξ = some ξ := by unfold fX12_groupRead_n73; rw [mFine0 hb, zBd_some, if_pos rfl]
theorem bN53 {y1 y2 y3 y4 : Int32} {ξ : gM} (hb : ξ 267 6 ≠ 0) : fX12_groupRead_n53 y1 y2 y3 y4 ξ = some ξ := by unfold fX12_groupRead_n53; rw [bTakes hb, zBp_some, if_pos rfl, bN73 hb]
/-- the class leaves the reader's part of its memory alone but for the reader -/
theorem MP.mf {b : Nat → Nat} {n : Nat} {ξ ζ : gM} (h : MP b n ξ) (f : BF ξ ζ) (h4 : ∃ p : Nat, (ζ 267 4).toInt = p ∧ p ≤ n) : MP b n ζ := ⟨h.1.mf f (by omega), h4⟩
/-! a draft in both -/
/-- a group's numbers, a member's, a track's: within their bounds -/
def GBd (e d k s : Int32) : Prop := (1 ≤ e.toInt ∧ e.toInt ≤ 40) ∧ (0 ≤ d.toInt ∧ d.toInt ≤ 99) ∧ (k = 0 ∨ k = 1) ∧ (1 ≤ s.toInt ∧ s.toInt ≤ 8)
def WBd (w s : Int32) : Prop := (1 ≤ w.toInt ∧ w.toInt ≤ 255) ∧ (0 ≤ s.toInt ∧ s.toInt ≤ 99)
def TBd (l s : Int32) : Prop := (0 ≤ l.toInt ∧ l.toInt ≤ 7) ∧ (1 ≤ s.toInt ∧ s.toInt ≤ 254)
def GRl (μ ξ : gM) (c : Nat) : Prop := ∀ g : Nat, g < c → μ 21 g = ξ 270 (28 + g) ∧ μ 22 g = ξ 270 (33 + g) ∧ μ 23 g = ξ 270 (38 + g) ∧ μ 24 g = ξ 270 (43 + g) ∧ GBd (ξ 270 (28 + g)) (ξ 270 (33 + g)) (ξ 270 (38 + g)) (ξ 270 (43 + g))
def MBl (μ ξ : gM) : Prop := ∀ g : Nat, g < 5 → μ 25 g = ξ 270 (48 + g) ∧ 0 ≤ (ξ 270 (48 + g)).toInt ∧ (ξ 270 (48 + g)).toInt ≤ 63
def MWl (μ ξ : gM) : Prop := ∀ g k : Nat, g < 5 → k < 6 → bitAt (ξ 270 (48 + g)) (nI k) → μ 26 (6 * g + k) = ξ 270 (53 + (6 * g + k)) ∧ μ 27 (6 * g + k) = ξ 270 (83 + (6 * g + k)) ∧ WBd (ξ 270 (53 + (6 * g + k))) (ξ 270 (83 + (6 * g + k))) ∧ (k : Int) < (ξ 270 0).toInt ∧ (g : Int) < (ξ 270 2).toInt
def TKl (μ ξ : gM) (c : Nat) : Prop := ∀ t : Nat, t < c → ∃ g k : Nat, g < 5 ∧ k < 6 ∧ ξ 270 (113 + 4 * t) = nI g ∧ ξ 270 (113 + 4 * t + 1) = nI k ∧ μ 28 t = nI (6 * g + k) ∧ μ 29 t = ξ 270 (113 + 4 * t + 2) ∧ μ 30 t = ξ 270 (113 + 4 * t + 3) ∧ TBd (ξ 270 (113 + 4 * t + 2)) (ξ 270 (113 + 4 * t + 3))
def DR (μ ξ : gM) : Prop := DN μ ξ ∧ MBl μ ξ ∧ MWl μ ξ ∧ ∃ cg ct : Nat, cg ≤ 5 ∧ ct ≤ 24 ∧ (ξ 270 0).toInt ≤ 6 ∧ ξ 270 2 = nI cg ∧ ξ 270 3 = nI ct ∧ μ 18 10 = nI ct ∧ GRl μ ξ cg ∧ TKl μ ξ ct
/-- the reader's own changes don't touch it -/
theorem DR.fr {μ ξ μ' ξ' : gM} (h : DR μ ξ) (c : ∀ a, a ≠ 1 → μ' a = μ a) (f : ∀ a, a ≠ 267 → ξ' a = ξ a) : DR μ' ξ' := by
  unfold DR DN NT GRl MBl MWl TKl at *
  rw [c (18 + 1) (by decide), c (18 + 2) (by decide), c 18 (by decide), c 21 (by decide), c 22 (by decide), c 23 (by decide), c 24 (by decide), c 25 (by decide), c 26 (by decide), c 27 (by decide), c 28 (by decide), c 29 (by decide), c 30 (by decide), f 270 (by decide)]
  exact h
