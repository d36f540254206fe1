/-! readers: both alike -/
theorem ckT {α : Type} {b : Bool} {x : Option α} (h : b = true) : zCk b x = x := by unfold zCk; rw [if_pos h]
theorem le5 {k : Nat} (hk : k < 1000) : (5 : Int32) ≤ nI k ↔ 5 ≤ k := nIle (a := 5) (by omega) hk
theorem groupG {cn cl cg ct : Nat} {a1 : Int32} {μ ξ : gM} (nc : NC μ ξ cn cl cg ct) : (∃ g, g < cg ∧ a1 = nI g ∧ fX1_isGroup 4 a1 μ = some 1 ∧ fX12_isGroup a1 ξ = some 1) ∨ (fX1_isGroup 4 a1 μ = some 0 ∧ fX12_isGroup a1 ξ = some 0) := by
  have b := nc.1.2.2.1
  have e1 : fX1_isGroup 4 a1 μ = if 0 ≤ a1.toInt ∧ a1.toInt ≤ (cg : Int) - 1 then some 1 else some 0 := by
    unfold fX1_isGroup
    rw [nc.2.1.2.2.1]
    exact cIn (by omega)
  have e2 : fX12_isGroup a1 ξ = some (if 0 ≤ a1.toInt ∧ a1.toInt ≤ (cg : Int) - 1 then 1 else 0) := by
    unfold fX12_isGroup fX12_groups
    rw [zBd_some, nc.2.2.2.2.1, mIn32 _ (y := 0) rfl (m1_64 (by omega)), zBd_some]
    unfold zCk
    by_cases c : 0 ≤ a1.toInt ∧ a1.toInt ≤ (cg : Int) - 1
    · rw [if_pos c, if_pos (by decide)]
    · rw [if_neg c, if_pos (by decide)]
  rw [e1, e2]
  by_cases c : 0 ≤ a1.toInt ∧ a1.toInt ≤ (cg : Int) - 1
  · rw [if_pos c, if_pos c]
    exact Or.inl ⟨a1.toInt.toNat, by omega, nI_of' (by omega), rfl, rfl⟩
  · rw [if_neg c, if_neg c]
    exact Or.inr ⟨rfl, rfl⟩
/-- a group and a gate -/
theorem pairG {cn cl cg ct : Nat} {a1 a2 : Int32} {μ ξ : gM} (nc : NC μ ξ cn cl cg ct) : (∃ g k, g < cg ∧ k < cn ∧ a1 = nI g ∧ a2 = nI k ∧ fX11_isPair a1 a2 μ = some 1 ∧ fX12_isGroup a1 ξ = some 1 ∧ fX12_isGate a2 ξ = some 1) ∨ (fX11_isPair a1 a2 μ = some 0 ∧ (fX12_isGroup a1 ξ = some 0 ∨ (fX12_isGroup a1 ξ = some 1 ∧ fX12_isGate a2 ξ = some 0))) := by
  unfold fX11_isPair
  rcases groupG (a1 := a1) nc with ⟨g, hg, rfl, g1, g2⟩ | ⟨g1, g2⟩
  · rcases gateG (a1 := a2) nc with ⟨k, hk, rfl, k1, k2⟩ | ⟨k1, k2⟩
    · rw [g1, zBd_some, if_neg one_n0, k1, zBd_some, if_neg one_n0]
      exact Or.inl ⟨g, k, hg, hk, rfl, rfl, rfl, g2, k2⟩
    · rw [g1, zBd_some, if_neg one_n0, k1, zBd_some, if_pos rfl]
      exact Or.inr ⟨rfl, Or.inr ⟨g2, k2⟩⟩
  · rw [g1, zBd_some, if_pos rfl]
    exact Or.inr ⟨rfl, Or.inl g2⟩
theorem NET.m0 {cn cl cg ct g : Nat} {μ ξ : gM} (nt : NET μ ξ) (nc : NC μ ξ cn cl cg ct) (hg : g < 5) (h : cg ≤ g) : ξ 269 (48 + g) = 0 := bt_z.mpr (fun k _ => by
  by_cases c : k < 6
  · rw [← Bool.not_eq_true]
    exact fun w => absurd (nt.mlt nc ⟨hg, c, w⟩).2 (by omega)
  · exact nt.m63 hg (by omega))
theorem GRP.h0 {s g cn cl cg ct : Nat} {lo : Nat → Int} {μ ξ : gM} (nt : NET μ ξ) (nc : NC μ ξ cn cl cg ct) (gr : GRP s g no lo μ ξ) (hg : g < 5) (h : cg ≤ g) : μ (s + 5) g = 0 := bt_z.mpr (fun k hk => by
  by_cases c : k < 6
  · exact (gr.2.1 k c (fun m => absurd (nt.mlt nc m).2 (by omega))).2
  · exact gr.2.2.1 k (by omega) hk)
theorem pc0 : pc 0 = 0 := by decide +kernel
theorem add0 (x : Int32) : x + 0 = x := Int32.add_zero x
theorem or0 (x : Int32) : x ||| 0 = x := bt_ext (fun k _ => by rw [bt_or, bt_zero, Bool.or_false])
theorem sh0 : ∀ g : Nat, g < 32 → (0 : Int32) <<< (nI g &&& 31) = 0 := by decide +kernel
theorem cMany_t {cn cl cg ct : Nat} {μ ξ : gM} (nt : NET μ ξ) (nc : NC μ ξ cn cl cg ct) : ∀ (m k : Nat) (acc : Int32), cg ≤ k → k ≤ 5 → 5 < k + m → fX1_countMembers_l4 4 m acc (nI k) μ = some acc := by
  intro m
  induction m with
  | zero => intro k acc h1 h2 h3; omega
  | succ m ih =>
    intro k acc h1 h2 h3
    rw [fX1_countMembers_l4]
    by_cases c : 5 ≤ k
    · rw [if_pos ((le5 (by omega)).mpr c)]
    · rw [if_neg (fun w => c ((le5 (by omega)).mp w)), ckT (gI (by omega) (by decide)), nI_clamp (by omega), show (4 + 7 : Nat) = 11 from rfl, nt.m11 (by omega), nt.m0 nc (by omega) h1, pcC 0 μ (by decide) (by decide), zBd_some, zLt_eq, pc0, add0, zLt_eq, show nI k + (1 : Int32) = nI (k + 1) from nI_1 k]
      exact ih (k + 1) acc (by omega) (by omega) (by omega)
theorem pMany_l {cn cl cg ct : Nat} {μ ξ : gM} (nt : NET μ ξ) (nc : NC μ ξ cn cl cg ct) : ∀ (m k : Nat) (acc : Int32), k ≤ cg → 5 < k + m → ∃ v, fX1_countMembers_l4 4 m acc (nI k) μ = some v ∧ fX12_memberMany_l4 m acc (nI k) ξ = some v := by
  intro m
  have b5 := nc.1.2.2.1
  induction m with
  | zero => intro k acc h1 h2; omega
  | succ m ih =>
    intro k acc h1 h2
    by_cases c : k = cg
    · refine ⟨acc, cMany_t nt nc (m + 1) k acc (by omega) (by omega) (by omega), ?_⟩
      rw [fX12_memberMany_l4]
      unfold fX12_groups
      rw [zBd_some, nc.2.2.2.2.1, if_pos ((nIle (by omega) (by omega)).mpr (by omega))]
    · have b := nt.2.1 k (by omega)
      rw [fX1_countMembers_l4, fX12_memberMany_l4]
      unfold fX12_groups
      rw [zBd_some, nc.2.2.2.2.1, if_neg (fun w => by have := (le5 (by omega)).mp w; omega), if_neg (fun w => by have := (nIle (by omega) (by omega)).mp w; omega), ckT (gI (by omega) (by decide)), nI_clamp (by omega), show (4 + 7 : Nat) = 11 from rfl, nt.m11 (by omega), pcC _ μ b.2.1 b.2.2, zBd_some, zLt_eq, zLt_eq, ckT (ig (x := 48) (b := 48) (N := 209) (by omega) (by decide) rfl), ix (x := 48) (b := 48) (by omega) rfl, pcM _ ξ b.2.1 b.2.2, zBd_some, zLt_eq, zLt_eq, show nI k + (1 : Int32) = nI (k + 1) from nI_1 k]
      exact ih (k + 1) _ (by omega) (by omega)
theorem pMany {cn cl cg ct : Nat} {μ ξ : gM} (nt : NET μ ξ) (nc : NC μ ξ cn cl cg ct) : ∃ v, fX1_countMembers 4 μ = some v ∧ fX12_memberMany ξ = some v := by
  obtain ⟨v, e1, e2⟩ := pMany_l nt nc 100000 0 0 (by omega) (by omega)
  exact ⟨v, e1, e2⟩
theorem pHasQ {a1 : Int32} {μ ξ : gM} (h : LIVE μ ξ) (t1 : μ 4 0 = 1) (t2 : ξ 267 15 = 1) : ∃ v, fX11_has a1 μ = some v ∧ fX12_has a1 ξ = some (v, gUp ξ 267 0 0) := by
  have l0 := h.u0
  have t2' : gUp ξ 267 0 0 267 15 = 1 := by rw [zUp_slot _ (by decide)]; exact t2
  unfold fX11_has fX12_has
  rw [zLt_eq]
  generalize gUp ξ 267 0 0 = ζ at l0 t2' ⊢
  obtain ⟨cn, cl, cg, ct, nc⟩ := l0.nc
  obtain ⟨⟨⟨c, n, ⟨⟨nt, nu, mw, ax⟩, grs, cns⟩, pln, -⟩, -⟩, -, ps⟩ := l0
  obtain ⟨-, p1, p2, -⟩ := pln
  obtain ⟨-, -, f⟩ := ax
  obtain ⟨⟨n5, c5, -, -, -, q1, q2, -⟩, f2, f3, -⟩ := f trivial
  obtain ⟨cnt, idx, -, -, a1e, -, a2e, -⟩ := ps
  rw [if_neg (show ¬ μ 4 0 = 0 by rw [t1]; decide), if_neg (show ¬ ζ 267 15 = 0 by rw [t2']; decide)]
  by_cases c0 : a1 = 0
  · have e : μ 5 0 = ζ 269 0 := nc.2.1.1.trans nc.2.2.1.symm
    rw [if_pos c0, if_pos c0, e]
    exact ⟨_, rfl, rfl⟩
  rw [if_neg c0, if_neg c0]
  by_cases c1 : a1 = 1
  · have e : μ 5 1 = ζ 269 1 := nc.2.1.2.1.trans nc.2.2.2.1.symm
    rw [if_pos c1, if_pos c1, e]
    exact ⟨_, rfl, rfl⟩
  rw [if_neg c1, if_neg c1]
  by_cases c2 : a1 = 2
  · have e : μ 5 2 = ζ 269 2 := nc.2.1.2.2.1.trans nc.2.2.2.2.1.symm
    rw [if_pos c2, if_pos c2, e]
    exact ⟨_, rfl, rfl⟩
  rw [if_neg c2, if_neg c2]
  by_cases c3 : a1 = 3
  · obtain ⟨v, m1, m2⟩ := pMany nt nc
    rw [if_pos c3, if_pos c3, m1, m2]
    exact ⟨_, rfl, rfl⟩
  rw [if_neg c3, if_neg c3]
  by_cases c4 : a1 = 4
  · have e : μ 4 10 = ζ 269 3 := nc.2.1.2.2.2.trans nc.2.2.2.2.2.symm
    rw [if_pos c4, if_pos c4, e]
    exact ⟨_, rfl, rfl⟩
  rw [if_neg c4, if_neg c4]
  by_cases c5 : a1 = 5
  · have e : μ 34 0 = ζ 272 0 := nu.1
    rw [if_pos c5, if_pos c5, e]
    exact ⟨_, rfl, rfl⟩
  rw [if_neg c5, if_neg c5]
  by_cases c6 : a1 = 6
  · have e : μ 34 1 = ζ 272 1 := nu.2.1
    rw [if_pos c6, if_pos c6, e]
    exact ⟨_, rfl, rfl⟩
  rw [if_neg c6, if_neg c6]
  by_cases c7 : a1 = 7
  · have e : μ 34 2 = ζ 272 2 := nu.2.2.1
    rw [if_pos c7, if_pos c7, e]
    exact ⟨_, rfl, rfl⟩
  rw [if_neg c7, if_neg c7]
  by_cases c8 : a1 = 8
  · have e : μ 34 3 = ζ 272 3 := nu.2.2.2.1
    rw [if_pos c8, if_pos c8, e]
    exact ⟨_, rfl, rfl⟩
  rw [if_neg c8, if_neg c8]
  by_cases c9 : a1 = 9
  · have e : μ 34 4 = ζ 272 4 := nu.2.2.2.2.1
    rw [if_pos c9, if_pos c9, e]
    exact ⟨_, rfl, rfl⟩
  rw [if_neg c9, if_neg c9]
  by_cases c10 : a1 = 10
  · have e : μ 34 5 = ζ 272 9 := nu.2.2.2.2.2.1
    rw [if_pos c10, if_pos c10, e]
    exact ⟨_, rfl, rfl⟩
  rw [if_neg c10, if_neg c10]
  by_cases c11 : a1 = 11
  · have e : μ 35 0 = ζ 272 8 := p1.trans p2.symm
    rw [if_pos c11, if_pos c11, e]
    exact ⟨_, rfl, rfl⟩
  rw [if_neg c11, if_neg c11]
  by_cases c12 : a1 = 12
  · have e : μ 37 0 = ζ 272 7 := q1.trans q2.symm
    rw [if_pos c12, if_pos c12, e]
    exact ⟨_, rfl, rfl⟩
  rw [if_neg c12, if_neg c12]
  by_cases c13 : a1 = 13
  · have e : μ 49 2 = ζ 267 20 := a1e.trans a2e.symm
    rw [if_pos c13, if_pos c13, e]
    exact ⟨_, rfl, rfl⟩
  rw [if_neg c13, if_neg c13]
  by_cases c14 : a1 = 14
  · have e : μ 34 6 = ζ 272 5 := f2
    rw [if_pos c14, if_pos c14, e]
    exact ⟨_, rfl, rfl⟩
  rw [if_neg c14, if_neg c14]
  by_cases c15 : a1 = 15
  · have e : μ 34 7 = ζ 272 6 := f3
    rw [if_pos c15, if_pos c15, e]
    exact ⟨_, rfl, rfl⟩
  rw [if_neg c15, if_neg c15]
  exact ⟨_, rfl, rfl⟩
theorem pGroupQ {a1 a2 : Int32} {μ ξ : gM} (h : LIVE μ ξ) : ∃ v, fX11_group a1 a2 μ = some v ∧ fX12_group a1 a2 ξ = some (v, gUp ξ 267 0 0) := by
  have l0 := h.u0
  unfold fX11_group fX12_group
  rw [zLt_eq]
  generalize gUp ξ 267 0 0 = ζ at l0 ⊢
  obtain ⟨cn, cl, cg, ct, nc⟩ := l0.nc
  obtain ⟨⟨⟨c, n, ⟨⟨nt, nu, mw, ax⟩, grs, cns⟩, pln, -⟩, -⟩, -, ps⟩ := l0
  have b5 := nc.1.2.2.1
  rcases groupG (a1 := a1) nc with ⟨g, hg, rfl, g1, g2⟩ | ⟨g1, g2⟩
  · rw [g1, g2, zBd_some, zBd_some, if_neg one_n0, if_neg one_n0]
    obtain ⟨r7, r8, r9, r10, -⟩ := nt.gr nc hg
    have r11 := nt.m11 (g := g) (by omega)
    have r40 : μ 40 g = ζ 272 (130 + g) := (cns g (by omega)).1
    have r41 : μ 41 g = ζ 272 (135 + g) := (cns g (by omega)).2
    have r42 : μ 42 g = ζ 272 (140 + g) := (grs g (by omega)).2.2.2
    have r39 : fX12_bitsOf (nI g) 2 ζ = some (μ 39 g) := mHeld nt (grs g (by omega)) (by omega)
    have gi : gIn (nI g) 5 = true := gI (by omega) (by decide)
    have cq : (nI g).toNatClampNeg = g := nI_clamp (by omega)
    by_cases c0 : a2 = 0
    · rw [if_pos c0, if_pos c0, ckT gi, cq, ckT (ig (x := 28) (b := 28) (N := 209) (by omega) (by decide) rfl), ix (x := 28) (b := 28) (by omega) rfl, r7]
      exact ⟨_, rfl, rfl⟩
    rw [if_neg c0, if_neg c0]
    by_cases c1 : a2 = 1
    · rw [if_pos c1, if_pos c1, ckT gi, cq, ckT (ig (x := 33) (b := 33) (N := 209) (by omega) (by decide) rfl), ix (x := 33) (b := 33) (by omega) rfl, r8]
      exact ⟨_, rfl, rfl⟩
    rw [if_neg c1, if_neg c1]
    by_cases c2 : a2 = 2
    · rw [if_pos c2, if_pos c2, ckT gi, cq, ckT (ig (x := 38) (b := 38) (N := 209) (by omega) (by decide) rfl), ix (x := 38) (b := 38) (by omega) rfl, r9]
      exact ⟨_, rfl, rfl⟩
    rw [if_neg c2, if_neg c2]
    by_cases c3 : a2 = 3
    · rw [if_pos c3, if_pos c3, ckT gi, cq, ckT (ig (x := 43) (b := 43) (N := 209) (by omega) (by decide) rfl), ix (x := 43) (b := 43) (by omega) rfl, r10]
      exact ⟨_, rfl, rfl⟩
    rw [if_neg c3, if_neg c3]
    by_cases c4 : a2 = 4
    · rw [if_pos c4, if_pos c4, ckT gi, cq, ckT (ig (x := 48) (b := 48) (N := 209) (by omega) (by decide) rfl), ix (x := 48) (b := 48) (by omega) rfl, r11]
      exact ⟨_, rfl, rfl⟩
    rw [if_neg c4, if_neg c4]
    by_cases c5 : a2 = 5
    · rw [if_pos c5, if_pos c5, ckT gi, cq, ckT (ig (x := 130) (b := 130) (N := 490) (by omega) (by decide) rfl), ix (x := 130) (b := 130) (by omega) rfl, r40]
      exact ⟨_, rfl, rfl⟩
    rw [if_neg c5, if_neg c5]
    by_cases c6 : a2 = 6
    · rw [if_pos c6, if_pos c6, ckT gi, cq, ckT (ig (x := 135) (b := 135) (N := 490) (by omega) (by decide) rfl), ix (x := 135) (b := 135) (by omega) rfl, r41]
      exact ⟨_, rfl, rfl⟩
    rw [if_neg c6, if_neg c6]
    by_cases c7 : a2 = 7
    · rw [if_pos c7, if_pos c7, ckT gi, cq, ckT (ig (x := 140) (b := 140) (N := 490) (by omega) (by decide) rfl), ix (x := 140) (b := 140) (by omega) rfl, r42]
      exact ⟨_, rfl, rfl⟩
    rw [if_neg c7, if_neg c7]
    by_cases c8 : a2 = 8
    · rw [if_pos c8, if_pos c8, ckT gi, cq, r39]
      exact ⟨_, rfl, rfl⟩
    rw [if_neg c8, if_neg c8]
    exact ⟨_, rfl, rfl⟩
  · rw [g1, g2, zBd_some, zBd_some, if_pos rfl, if_pos rfl]
    exact ⟨_, rfl, rfl⟩
theorem pMemberQ {a1 a2 a3 : Int32} {μ ξ : gM} (h : LIVE μ ξ) : ∃ v, fX11_member a1 a2 a3 μ = some v ∧ fX12_member a1 a2 a3 ξ = some (v, gUp ξ 267 0 0) := by
  have l0 := h.u0
  unfold fX11_member fX12_member
  rw [zLt_eq, zLt_eq]
  generalize gUp ξ 267 0 0 = ζ at l0 ⊢
  obtain ⟨cn, cl, cg, ct, nc⟩ := l0.nc
  obtain ⟨⟨⟨c, n, ⟨⟨nt, nu, mw, ax⟩, grs, cns⟩, pln, -⟩, -⟩, -, ps⟩ := l0
  rcases memG (a1 := a1) (a2 := a2) nt nc with ⟨g, k, m, rfl, rfl, g1, g2⟩ | ⟨g1, g2⟩
  · have hg := m.1
    have hk := m.2.1
    rw [g1, g2, zBd_some, zBd_some, if_neg one_n0, if_neg one_n0, mOf ζ hg hk, zBd_some, o6f hg hk]
    obtain ⟨w1, -, w3, w4⟩ := mw g k m
    obtain ⟨s1, s2, -, -, s5⟩ := (grs g hg).1 k m id
    have r2 : μ 13 (6 * g + k) = ζ 269 (83 + (6 * g + k)) := (nt.2.2.1 g k hg hk (nt.mb m)).2.1
    have gi : gIn (nI (6 * g + k)) 30 = true := gI (by omega) (by decide)
    have cq : (nI (6 * g + k)).toNatClampNeg = 6 * g + k := nI_clamp (by omega)
    have h3 := nc.2.2.2.2.2
    have hc := nc.1.2.2.2
    have r7 := (nt.gr nc (nt.mlt nc m).2).1
    have e43 : μ 43 (6 * g + k) = ζ 272 (10 + (6 * g + k)) := w1
    have e44 : fX12_wordOf (nI g) (nI k) ζ = some (μ 44 (6 * g + k)) := (mWord hg hk h3 hc).trans (congrArg some w3.symm)
    have w3' : μ 44 (6 * g + k) = wv (ζ 269) (ζ 272 2) (ζ 272 (10 + (6 * g + k))) g k := w3
    have w4' : μ 45 (6 * g + k) = sv (ζ 269) g (μ 44 (6 * g + k)) := w4
    have e45 : fX12_skewOf (nI g) (nI k) ζ = some (μ 45 (6 * g + k)) := (mSkew hg hk h3 hc).trans (by rw [w4', w3'])
    have e46 : μ 46 (6 * g + k) = ζ 272 (70 + (6 * g + k)) := s1
    have e47 : μ 47 (6 * g + k) = ζ 272 (100 + (6 * g + k)) - 1 := s2
    have ep : fX12_patienceOf (nI g) (nI k) ζ = some ((3 : Int32) * μ 7 g + μ 45 (6 * g + k)) := (mPat hg hk h3 hc).trans (by unfold pv; rw [w4', w3', r7])
    have eu : μ 34 1 = ζ 272 1 := nu.2.1
    have eh : fX9_howIs 34 (nI g) (nI k) μ = some (ζ 272 (40 + (6 * g + k))) := by
      unfold fX9_howIs fX9_isUp fX9_isHeld
      rw [eu]
      rcases s5 with ⟨b1, -, b3, -⟩ | ⟨b1, b2⟩
      · rw [if_neg (fun w => by rw [bit1_iff (by omega), b1] at w; exact absurd w (by decide)), zBd_some, if_pos rfl, b3]
      · rw [if_pos ((bit1_iff (by omega)).mpr b1), zBd_some, if_neg one_n0, ckT (gI hg (by decide)), nI_clamp (by omega)]
        rcases b2 with ⟨b2, b3⟩ | ⟨b2, b3⟩
        · rw [if_neg (fun w => by rw [bit1_iff (by omega), b2] at w; exact absurd w (by decide)), zBd_some, if_pos rfl, b3]
        · rw [if_pos ((bit1_iff (by omega)).mpr b2), zBd_some, if_neg one_n0, b3]
    by_cases c0 : a3 = 0
    · rw [if_pos c0, if_pos c0, ckT gi, cq, ckT (ig (x := 10) (b := 10) (N := 490) (by omega) (by decide) rfl), ix (x := 10) (b := 10) (by omega) rfl, e43]
      exact ⟨_, rfl, rfl⟩
    rw [if_neg c0, if_neg c0]
    by_cases c1 : a3 = 1
    · rw [if_pos c1, if_pos c1, ckT gi, cq, e44]
      exact ⟨_, rfl, rfl⟩
    rw [if_neg c1, if_neg c1]
    by_cases c2 : a3 = 2
    · rw [if_pos c2, if_pos c2, ckT gi, cq, ckT (ig (x := 83) (b := 83) (N := 209) (by omega) (by decide) rfl), ix (x := 83) (b := 83) (by omega) rfl, r2]
      exact ⟨_, rfl, rfl⟩
    rw [if_neg c2, if_neg c2]
    by_cases c3 : a3 = 3
    · rw [if_pos c3, if_pos c3, eh, ckT (ig (x := 40) (b := 40) (N := 490) (by omega) (by decide) rfl), ix (x := 40) (b := 40) (by omega) rfl]
      exact ⟨_, rfl, rfl⟩
    rw [if_neg c3, if_neg c3]
    by_cases c4 : a3 = 4
    · rw [if_pos c4, if_pos c4, ckT gi, cq, ckT (ig (x := 70) (b := 70) (N := 490) (by omega) (by decide) rfl), ix (x := 70) (b := 70) (by omega) rfl, e46]
      exact ⟨_, rfl, rfl⟩
    rw [if_neg c4, if_neg c4]
    by_cases c5 : a3 = 5
    · rw [if_pos c5, if_pos c5, ckT gi, cq, e45]
      exact ⟨_, rfl, rfl⟩
    rw [if_neg c5, if_neg c5]
    by_cases c6 : a3 = 6
    · rw [if_pos c6, if_pos c6, ckT gi, cq, ep]
      unfold fX1_patience
      rw [ckT (gI hg (by decide)), nI_clamp (by omega)]
      exact ⟨_, rfl, rfl⟩
    rw [if_neg c6, if_neg c6]
    by_cases c7 : a3 = 7
    · rw [if_pos c7, if_pos c7, ckT gi, cq, ckT (ig (x := 100) (b := 100) (N := 490) (by omega) (by decide) rfl), ix (x := 100) (b := 100) (by omega) rfl, e47]
      exact ⟨_, rfl, rfl⟩
    rw [if_neg c7, if_neg c7]
    exact ⟨_, rfl, rfl⟩
  · rw [g1, g2, zBd_some, zBd_some, if_pos rfl, if_pos rfl]
    exact ⟨_, rfl, rfl⟩
