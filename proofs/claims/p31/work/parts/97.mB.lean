/-! the net in both -/
def NET (μ ξ : gM) : Prop := (NT 4 269 0 μ ξ ∧ NT 4 269 1 μ ξ ∧ NT 4 269 2 μ ξ) ∧ (∀ g : Nat, g < 5 → μ 11 g = ξ 269 (48 + g) ∧ 0 ≤ (ξ 269 (48 + g)).toInt ∧ (ξ 269 (48 + g)).toInt ≤ 63) ∧ (∀ g k : Nat, g < 5 → k < 6 → bitAt (ξ 269 (48 + g)) (nI k) → μ 12 (6 * g + k) = ξ 269 (53 + (6 * g + k)) ∧ μ 13 (6 * g + k) = ξ 269 (83 + (6 * g + k)) ∧ WBd (ξ 269 (53 + (6 * g + k))) (ξ 269 (83 + (6 * g + k))) ∧ (k : Int) < (ξ 269 0).toInt ∧ (g : Int) < (ξ 269 2).toInt) ∧ ∃ cg ct : Nat, cg ≤ 5 ∧ ct ≤ 24 ∧ (ξ 269 0).toInt ≤ 6 ∧ ξ 269 2 = nI cg ∧ ξ 269 3 = nI ct ∧ μ 4 10 = nI ct ∧ (∀ g : Nat, g < cg → μ 7 g = ξ 269 (28 + g) ∧ μ 8 g = ξ 269 (33 + g) ∧ μ 9 g = ξ 269 (38 + g) ∧ μ 10 g = ξ 269 (43 + g) ∧ GBd (ξ 269 (28 + g)) (ξ 269 (33 + g)) (ξ 269 (38 + g)) (ξ 269 (43 + g))) ∧ ∀ t : Nat, t < ct → ∃ g k : Nat, g < 5 ∧ k < 6 ∧ ξ 269 (113 + 4 * t) = nI g ∧ ξ 269 (113 + 4 * t + 1) = nI k ∧ μ 14 t = nI (6 * g + k) ∧ μ 15 t = ξ 269 (113 + 4 * t + 2) ∧ μ 16 t = ξ 269 (113 + 4 * t + 3) ∧ TBd (ξ 269 (113 + 4 * t + 2)) (ξ 269 (113 + 4 * t + 3))
theorem NET.fr {μ ξ μ' ξ' : gM} (h : NET μ ξ) (c : ∀ a, 4 ≤ a → a ≤ 16 → μ' a = μ a) (f : ξ' 269 = ξ 269) : NET μ' ξ' := by
  unfold NET NT at *
  rw [c (4 + 1) (by decide) (by decide), c (4 + 2) (by decide) (by decide), c 4 (by decide) (by decide), c 7 (by decide) (by decide), c 8 (by decide) (by decide), c 9 (by decide) (by decide), c 10 (by decide) (by decide), c 11 (by decide) (by decide), c 12 (by decide) (by decide), c 13 (by decide) (by decide), c 14 (by decide) (by decide), c 15 (by decide) (by decide), c 16 (by decide) (by decide), f]
  exact h
/-- the counts of a net: gates, links, groups, tracks -/
def NC (μ ξ : gM) (cn cl cg ct : Nat) : Prop := (cn ≤ 6 ∧ cl ≤ 8 ∧ cg ≤ 5 ∧ ct ≤ 24) ∧ (μ 5 0 = nI cn ∧ μ 5 1 = nI cl ∧ μ 5 2 = nI cg ∧ μ 4 10 = nI ct) ∧ ξ 269 0 = nI cn ∧ ξ 269 1 = nI cl ∧ ξ 269 2 = nI cg ∧ ξ 269 3 = nI ct
theorem NET.nc {μ ξ : gM} (h : NET μ ξ) : ∃ cn cl cg ct, NC μ ξ cn cl cg ct := by
  obtain ⟨⟨n0, n1, n2⟩, -, -, cg, ct, l1, l2, l3, l4, l5, l6, -⟩ := h
  have e0 : ξ 269 0 = nI (ξ 269 0).toInt.toNat := nI_of' (by have := n0.2.1; omega)
  have e1 : ξ 269 1 = nI (ξ 269 1).toInt.toNat := nI_of' (by have := n1.2.1; omega)
  refine ⟨_, _, cg, ct, ⟨?_, ?_, l1, l2⟩, ⟨n0.1.trans e0, n1.1.trans e1, n2.1.trans l4, l6⟩, e0, e1, l4, l5⟩
  · have := n0.2.1; omega
  · have := n1.2.1; omega
/-- is it a member -/
def mem (o : Nat → Int32) (g k : Nat) : Prop := g < 5 ∧ k < 6 ∧ bt (o (48 + g)) k = true
theorem NET.mb {μ ξ : gM} (h : NET μ ξ) {g k : Nat} (m : mem (ξ 269) g k) : bitAt (ξ 269 (48 + g)) (nI k) := (bitAt_iff (by have := m.2.1; omega)).mpr m.2.2
theorem NET.mlt {μ ξ : gM} {cn cl cg ct : Nat} (h : NET μ ξ) (c : NC μ ξ cn cl cg ct) {g k : Nat} (m : mem (ξ 269) g k) : k < cn ∧ g < cg := by
  obtain ⟨-, -, -, q1, q2⟩ := h.2.2.1 g k m.1 m.2.1 (h.mb m)
  obtain ⟨⟨b1, b2, b3, b4⟩, -, c1, c2, c3, c4⟩ := c
  rw [c1, tN (by omega)] at q1
  rw [c3, tN (by omega)] at q2
  omega
theorem NET.m11 {μ ξ : gM} (h : NET μ ξ) {g : Nat} (hg : g < 5) : μ 11 g = ξ 269 (48 + g) := (h.2.1 g hg).1
theorem NET.gr {μ ξ : gM} {cn cl cg ct : Nat} (h : NET μ ξ) (c : NC μ ξ cn cl cg ct) {g : Nat} (hg : g < cg) : μ 7 g = ξ 269 (28 + g) ∧ μ 8 g = ξ 269 (33 + g) ∧ μ 9 g = ξ 269 (38 + g) ∧ μ 10 g = ξ 269 (43 + g) ∧ GBd (ξ 269 (28 + g)) (ξ 269 (33 + g)) (ξ 269 (38 + g)) (ξ 269 (43 + g)) := by
  obtain ⟨-, -, -, cg', ct', l1, l2, l3, l4, l5, l6, gr, -⟩ := h
  have e : cg' = cg := nI_inj (by omega) (by have := c.1; omega) (l4.symm.trans c.2.2.2.2.1)
  subst e
  exact gr g hg
theorem NET.tk {μ ξ : gM} {cn cl cg ct : Nat} (h : NET μ ξ) (c : NC μ ξ cn cl cg ct) {t : Nat} (ht : t < ct) : ∃ g k : Nat, g < 5 ∧ k < 6 ∧ ξ 269 (113 + 4 * t) = nI g ∧ ξ 269 (113 + 4 * t + 1) = nI k ∧ μ 14 t = nI (6 * g + k) ∧ μ 15 t = ξ 269 (113 + 4 * t + 2) ∧ μ 16 t = ξ 269 (113 + 4 * t + 3) ∧ TBd (ξ 269 (113 + 4 * t + 2)) (ξ 269 (113 + 4 * t + 3)) := by
  obtain ⟨-, -, -, cg', ct', l1, l2, l3, l4, l5, l6, -, tk⟩ := h
  have e : ct' = ct := nI_inj (by omega) (by have := c.1; omega) (l5.symm.trans c.2.2.2.2.2)
  subst e
  exact tk t ht
/-! the class's word -/
theorem cWord_l {μ ξ : gM} {g k cn cl cg c : Nat} {cuts : Int32} (hg : g < 5) (hk : k < 6) (h : NET μ ξ) (nc : NC μ ξ cn cl cg c) : ∀ (m t : Nat) (y v : Int32), y.toInt = t → t ≤ c → c < t + m → fX1_weightOf_l17 4 m (nI (6 * g + k)) cuts v y μ = some (wv1 (wvs (ξ 269) cuts g k (c - t) t v)) := by
  have hc : c ≤ 24 := nc.1.2.2.2
  have h10 : μ 4 10 = nI c := nc.2.1.2.2.2
  intro m
  induction m with
  | zero =>
    intro t y v hy ht gm
    exact absurd gm (by omega)
  | succ m ih =>
    intro t y v hy ht gm
    have tc : (nI c).toInt = c := nI_toInt (by omega)
    rw [fX1_weightOf_l17, h10]
    by_cases c1 : nI c ≤ y
    · have c' := Int32.le_iff_toInt_le.mp c1
      rw [if_pos c1, show c - t = 0 by omega]
      unfold fX1_weightOf_n77 wv1 wvs
      split <;> rfl
    · have c' : ¬ (nI c).toInt ≤ y.toInt := fun w => c1 (Int32.le_iff_toInt_le.mpr w)
      have z24 : (24 : Int32).toInt = 24 := rfl
      rw [if_neg c1, if_neg (fun w => by have := Int32.le_iff_toInt_le.mp w; omega)]
      have nx : (y + 1).toInt = ((t + 1 : Nat) : Int) := (iA hy (iL (1) (1) rfl) (by omega) (by omega)).trans (by omega)
      have go := fun v => ih (t + 1) (y + 1) v nx (by omega) (by omega)
      rw [show c - t = (c - (t + 1)) + 1 by omega, wvs]
      simp only [zCk, zLt]
      obtain ⟨g', k', q1, q2, q3, q4, q5, q6, q7, -⟩ := h.tk nc (show t < c by omega)
      have iy : gIn y 24 = true := zIn hy (by omega) (by omega)
      rw [if_pos iy, if_pos iy, if_pos iy, cl_of hy, show μ (4 + 10) t = nI (6 * g' + k') from q5, show μ (4 + 11) t = _ from q6, show μ (4 + 12) t = _ from q7, q3, q4]
      by_cases e : g' = g ∧ k' = k
      · obtain ⟨rfl, rfl⟩ := e
        rw [if_pos rfl]
        by_cases e2 : ((cuts >>> (ξ 269 (113 + 4 * t + 2) &&& 31)) &&& (1 : Int32)) = (1 : Int32)
        · rw [if_pos e2, if_pos ⟨rfl, rfl, e2⟩]
          exact go _
        · rw [if_neg e2, if_neg (fun w => e2 w.2.2)]
          exact go _
      · rw [if_neg (fun w => e (by have := nI_inj (by omega) (by omega) w; omega)), if_neg (fun w => e ⟨nI_inj (by omega) (by omega) w.1, nI_inj (by omega) (by omega) w.2.1⟩)]
        exact go _
theorem cWord {μ ξ : gM} {g k : Nat} {told cuts : Int32} (hg : g < 5) (hk : k < 6) (h : NET μ ξ) : fX1_weightOf 4 (nI (6 * g + k)) told cuts μ = some (wv (ξ 269) cuts told g k) := by
  obtain ⟨cn, cl, cg, ct, nc⟩ := h.nc
  unfold fX1_weightOf wv
  by_cases e : told = 255
  · rw [if_pos e, if_pos e]
  · rw [if_neg e, if_neg e, cWord_l hg hk h nc 100000 0 0 _ rfl (by omega) (by have := nc.1; omega), nc.2.2.2.2.2, tN (by have := nc.1; omega)]
    rfl
/-- a word's bounds -/
theorem wvs_b {μ ξ : gM} {g k cn cl cg c : Nat} {cuts : Int32} (h : NET μ ξ) (nc : NC μ ξ cn cl cg c) : ∀ (n t : Nat) (v : Int32), t + n = c → -254 * (t : Int) ≤ v.toInt → v.toInt ≤ 255 → (wvs (ξ 269) cuts g k n t v).toInt ≤ 255 := by
  have hc : c ≤ 24 := nc.1.2.2.2
  intro n
  induction n with
  | zero => intro t v _ _ h1; exact h1
  | succ n ih =>
    intro t v e h0 h1
    rw [wvs]
    obtain ⟨g', k', q1, q2, q3, q4, q5, q6, q7, q8, q9⟩ := h.tk nc (show t < c by omega)
    split
    · have := iS (rfl : v.toInt = _) (rfl : (ξ 269 (113 + 4 * t + 3)).toInt = _) (by omega) (by omega)
      exact ih (t + 1) _ (by omega) (by omega) (by omega)
    · exact ih (t + 1) _ (by omega) (by omega) (by omega)
theorem wv_b {μ ξ : gM} {g k : Nat} {cuts told : Int32} (h : NET μ ξ) (t1 : 1 ≤ told.toInt) (t2 : told.toInt ≤ 255) : 1 ≤ (wv (ξ 269) cuts told g k).toInt ∧ (wv (ξ 269) cuts told g k).toInt ≤ 255 := by
  obtain ⟨cn, cl, cg, ct, nc⟩ := h.nc
  unfold wv
  split
  · exact ⟨by decide, by decide⟩
  · have e : (ξ 269 3).toInt.toNat = ct := by rw [nc.2.2.2.2.2, tN (by have := nc.1; omega)]; rfl
    have := wvs_b (g := g) (k := k) (cuts := cuts) h nc ct 0 told (by omega) (by omega) t2
    rw [e]
    unfold wv1
    split
    · rename_i w
      have w := Int32.le_iff_toInt_le.mp w
      have t : (1 : Int32).toInt = 1 := rfl
      omega
    · exact ⟨by decide, by decide⟩
