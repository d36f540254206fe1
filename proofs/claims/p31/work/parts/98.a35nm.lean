/-! members, tracks, statements; a net's text, a plan's -/
theorem nOff {v : Int32} {N : Nat} (h0 : 0 ≤ v.toInt) (h1 : v.toInt < N) (hN : N ≤ 100) : ∃ k, k < N ∧ v = nI k := ⟨v.toInt.toNat, by omega, nI_of' (by omega)⟩
theorem nMc1 {r r' : Nat → Int32} {g k : Nat} (hg : g < 5) (hk : k < 6) (h : ∀ i, 48 ≤ i → i < 53 → i ≠ 48 + g → r' i = r i) (e : r' (48 + g) = r (48 + g) ||| ((1 : Int32) <<< (nI k &&& 31))) : nMc r' ≤ nMc r + 1 := by
  have a : nMc r' ≤ lq_rw (fun p => bt (r (48 + p / 6)) (p % 6) || decide (p = 6 * g + k)) 30 := lq_rw_mono (fun p hp w => by
    by_cases c : p = 6 * g + k
    · rw [decide_eq_true c, Bool.or_true]
    · rw [decide_eq_false c, Bool.or_false]
      by_cases c2 : p / 6 = g
      · rw [c2, e, (btOr (by omega)).2 (p % 6) (by omega) (by omega)] at w
        rw [c2]; exact w
      · rw [h _ (by omega) (by omega) (by omega)] at w
        exact w)
  have b := lq_rw_or (p := fun p => bt (r (48 + p / 6)) (p % 6)) (q := fun p => decide (p = 6 * g + k)) 30
  have c := lq_rw_1 (p := fun p => decide (p = 6 * g + k)) (n := 30) (fun i j _ _ ei ej => (of_decide_eq_true ei).trans (of_decide_eq_true ej).symm)
  unfold nMc at *
  omega
theorem nM101 {g k : Nat} {y4 z0 : Int32} {ξ ζ : gM} (hg : g < 5) (hk : k < 6) (e : fX12_memberRead_n101 (nI k) (nI g) y4 z0 ξ = some ζ) (w : ζ 267 6 = 0) : nPG 0 ξ ζ ∧ (∀ i, i < 4 → ζ 270 i = ξ 270 i) ∧ nMc (ζ 270) ≤ nMc (ξ 270) + 1 := by
  unfold fX12_memberRead_n101 at e
  obtain ⟨x, e1, e2⟩ := bdI e
  rcases nFine e1 with ⟨rfl, cx⟩ | ⟨cx, -⟩
  · rw [if_pos rfl] at e2
    obtain rfl := Option.some.inj e2
    exact absurd w cx
  · rw [if_neg cx, zLt_eq] at e2
    have e2 := ckI (ckI e2)
    rw [zLt_eq, mOf _ hg hk, zBd_some] at e2
    have e2 := ckI e2
    rw [zLt_eq, mOf _ hg hk, zBd_some] at e2
    have e2 := ckI e2
    rw [zLt_eq] at e2
    obtain rfl := Option.some.inj e2
    have j48 : ((48 : Int32) + nI g).toNatClampNeg = 48 + g := by rw [show (48 : Int32) = nI 48 from rfl, nI_add, nI_clamp (by omega)]
    have j53 : ((53 : Int32) + nI (6 * g + k)).toNatClampNeg = 53 + (6 * g + k) := by rw [show (53 : Int32) = nI 53 from rfl, nI_add, nI_clamp (by omega)]
    have j83 : ((83 : Int32) + nI (6 * g + k)).toNatClampNeg = 83 + (6 * g + k) := by rw [show (83 : Int32) = nI 83 from rfl, nI_add, nI_clamp (by omega)]
    rw [j48, j53, j83]
    refine ⟨nPG_o (nPG_o (nPG_g (Or.inl rfl)) (Or.inl rfl)) (Or.inl rfl), fun i h1 => ?_, nMc1 hg hk (fun i h1 h2 h3 => ?_) ?_⟩
    · rw [zUp_slot _ (by omega), zUp_slot _ (by omega), zUp_slot _ (by omega)]
    · rw [zUp_slot _ (by omega), zUp_slot _ (by omega), zUp_slot _ h3]
    · rw [zUp_slot _ (by omega), zUp_slot _ (by omega), zUp_same]
theorem nM65 {g k : Nat} {ξ ζ : gM} (hg : g < 5) (hk : k < 6) (e : fX12_memberRead_n65 (nI k) (nI g) ξ = some ζ) (w : ζ 267 6 = 0) : nPG 7 ξ ζ ∧ (∀ i, i < 4 → ζ 270 i = ξ 270 i) ∧ nMc (ζ 270) ≤ nMc (ξ 270) + 1 := by
  unfold fX12_memberRead_n65 at e
  obtain ⟨μ9, e1, e2⟩ := bdI e
  obtain ⟨x10, μ11, e3, e4⟩ := bpI e2
  obtain ⟨x12, μ13, e5, e6⟩ := bpI e4
  have p1 : nPG 5 ξ μ9 := nAsks (k := 9) (by decide) rfl e1
  have p3 := p1.tr (nNum e3)
  have l1 : μ9 270 = ξ 270 := lX12_asks (LX.rf _) _ e1 270 (by decide)
  have l3 : μ11 270 = μ9 270 := lX12_number (LX.rf _) _ e3 270 (by decide)
  have l5 : μ13 270 = μ11 270 := lX12_takes (LX.rf _) _ e5 270 (by decide)
  have p5 : nPG 0 μ11 μ13 := by
    rcases nTakes (k := 10) (by decide) rfl e5 with ⟨-, q⟩ | ⟨-, q⟩
    · exact q
    · exact q.le (Nat.zero_le _)
  have fin : ∀ (z : Int32) (χ : gM), nPG 0 μ13 χ → χ 270 = μ13 270 → fX12_memberRead_n101 (nI k) (nI g) x10 z χ = some ζ → nPG 7 ξ ζ ∧ (∀ i, i < 4 → ζ 270 i = ξ 270 i) ∧ nMc (ζ 270) ≤ nMc (ξ 270) + 1 := fun z χ p l f => by
    obtain ⟨q1, q2, q3⟩ := nM101 hg hk f w
    have lx : χ 270 = ξ 270 := by rw [l, l5, l3, l1]
    rw [lx] at q2 q3
    exact ⟨((p3.tr p5).tr p).tr q1, q2, q3⟩
  by_cases c : x12 = 0
  · rw [if_pos c] at e6
    exact fin _ μ13 (nPG.rf _) rfl e6
  · rw [if_neg c] at e6
    obtain ⟨x26, μ27, e7, e8⟩ := bpI e6
    exact fin _ μ27 ((nNum e7).le (Nat.zero_le _)) (lX12_number (LX.rf _) _ e7 270 (by decide)) e8
theorem c00 : ((0 : Int32) + 0).toNatClampNeg = 0 := rfl
theorem c01 : ((0 : Int32) + 1).toNatClampNeg = 1 := rfl
theorem c02 : ((0 : Int32) + 2).toNatClampNeg = 2 := rfl
theorem nMember {c0 c1 c2 c3 : Nat} {ξ ζ : gM} (e : fX12_memberRead ξ = some ζ) (w : ζ 267 6 = 0) (t : nTP ξ) (r : nRI ξ c0 c1 c2 c3) (ws : nWS 6 ξ) : nTP ζ ∧ nRI ζ c0 c1 c2 c3 ∧ nMc (ζ 270) ≤ nMc (ξ 270) + 1 ∧ nPh ξ + 21 ≤ nPh ζ := by
  obtain ⟨⟨r0, r1, r2, r3⟩, b0, b1, b2, b3⟩ := r
  unfold fX12_memberRead at e
  obtain ⟨μ1, e1, e2⟩ := bdI e
  obtain ⟨x2, μ3, e3, e4⟩ := bpI e2
  rw [zLt_eq] at e4
  obtain ⟨μ5, e5, e6⟩ := bdI e4
  obtain ⟨x6, μ7, e7, e8⟩ := bpI e6
  obtain ⟨x8, e9, e10⟩ := bdI e8
  obtain ⟨p3, v3⟩ := nOne (by decide) e3
  have p5 : nPG 3 μ3 μ5 := nAsks (k := 8) (by decide) rfl e5
  obtain ⟨p7, v7⟩ := nOne (by decide) e7
  have l1 : μ1 270 = ξ 270 := lX12_pass (LX.rf _) _ e1 270 (by decide)
  have l3 : μ3 270 = μ1 270 := lX12_oneRead (LX.rf _) _ e3 270 (by decide)
  have l5 : μ5 270 = μ3 270 := lX12_asks (LX.rf _) _ e5 270 (by decide)
  have l7 : μ7 270 = μ5 270 := lX12_oneRead (LX.rf _) _ e7 270 (by decide)
  have lx : μ7 270 = ξ 270 := by rw [l7, l5, l3, l1]
  have key : fX12_memberRead_n65 x2 x6 μ7 = some ζ := by
    rcases nFine e9 with ⟨rfl, cx⟩ | ⟨cx, -⟩
    · rw [if_pos rfl] at e10; exact e10
    · rw [if_neg cx] at e10
      have e10 := ckI e10
      obtain ⟨x30, -, f2⟩ := bdI e10
      by_cases c : x30 = 0
      · rw [if_pos c] at f2; exact f2
      · rw [if_neg c] at f2
        obtain ⟨μ31, f3, f4⟩ := bdI f2
        exact absurd w (bX12_memberRead_n65 (SB.rf _) _ f4 (nFailK (by decide) f3))
  have w7 : μ7 267 6 = 0 := SB.c (bX12_memberRead_n65 (SB.rf _) _ key) w
  have w5 := p7.1 w7
  have w3 := p5.1 w5
  obtain ⟨t1, q1, -⟩ := nPassW e1 ws
  have v3 := v3 w3
  have v7 := v7 w7
  rw [c00, l1, r0, tN (by omega)] at v3
  rw [c02, l5, l3, l1, r2, tN (by omega)] at v7
  obtain ⟨k, hk, rfl⟩ := nOff (N := 6) v3.1 (by omega) (by omega)
  obtain ⟨g, hg, rfl⟩ := nOff (N := 5) v7.1 (by omega) (by omega)
  obtain ⟨pz, rz, mz⟩ := nM65 hg hk key w
  obtain ⟨tz, qz⟩ := (((p3.tr p5).tr p7).tr pz).2 t1 w
  rw [lx] at mz
  exact ⟨tz, ⟨⟨by rw [rz 0 (by decide), lx]; exact r0, by rw [rz 1 (by decide), lx]; exact r1, by rw [rz 2 (by decide), lx]; exact r2, by rw [rz 3 (by decide), lx]; exact r3⟩, b0, b1, b2, b3⟩, mz, by omega⟩
theorem nT138 {c : Nat} {y2 y3 y4 : Int32} {ξ ζ : gM} (hc : c < 24) (e : fX12_trackRead_n138 (nI c) y2 y3 y4 ξ = some ζ) (w : ζ 267 6 = 0) : nPG 7 ξ ζ ∧ (∀ i, i < 113 → i ≠ 3 → ζ 270 i = ξ 270 i) ∧ ζ 270 3 = ξ 270 3 + 1 := by
  unfold fX12_trackRead_n138 at e
  obtain ⟨μ14, e1, e2⟩ := bdI e
  obtain ⟨x15, μ16, e3, e4⟩ := bpI e2
  obtain ⟨x, e5, e6⟩ := bdI e4
  have p1 : nPG 5 ξ μ14 := nAsks (k := 13) (by decide) rfl e1
  have p3 := p1.tr (nNum e3)
  have lx : μ16 270 = ξ 270 := (lX12_number (LX.rf _) _ e3 270 (by decide)).trans (lX12_asks (LX.rf _) _ e1 270 (by decide))
  rcases nFine e5 with ⟨rfl, cx⟩ | ⟨cx, -⟩
  · rw [if_pos rfl] at e6
    obtain rfl := Option.some.inj e6
    exact absurd w cx
  · rw [if_neg cx] at e6
    have e6 := ckI e6
    rw [zLt_eq] at e6
    have e6 := ckI e6
    rw [zLt_eq] at e6
    have e6 := ckI e6
    rw [zLt_eq] at e6
    have e6 := ckI e6
    rw [zLt_eq, zLt_eq] at e6
    obtain rfl := Option.some.inj e6
    have jb : (113 : Int32) + ((4 : Int32) * nI c) = nI (113 + 4 * c) := by rw [show (4 : Int32) = nI 4 from rfl, pk_mul, show (113 : Int32) = nI 113 from rfl, nI_add]
    have j0 : ((113 : Int32) + ((4 : Int32) * nI c)).toNatClampNeg = 113 + 4 * c := by rw [jb, nI_clamp (by omega)]
    have j1 : ((113 : Int32) + ((4 : Int32) * nI c) + (1 : Int32)).toNatClampNeg = 113 + 4 * c + 1 := by rw [jb, show (1 : Int32) = nI 1 from rfl, nI_add, nI_clamp (by omega)]
    have j2 : ((113 : Int32) + ((4 : Int32) * nI c) + (2 : Int32)).toNatClampNeg = 113 + 4 * c + 2 := by rw [jb, show (2 : Int32) = nI 2 from rfl, nI_add, nI_clamp (by omega)]
    have j3 : ((113 : Int32) + ((4 : Int32) * nI c) + (3 : Int32)).toNatClampNeg = 113 + 4 * c + 3 := by rw [jb, show (3 : Int32) = nI 3 from rfl, nI_add, nI_clamp (by omega)]
    rw [j0, j1, j2, j3]
    refine ⟨p3.tr (nPG_o (nPG_o (nPG_o (nPG_o (nPG_g (Or.inl rfl)) (Or.inl rfl)) (Or.inl rfl)) (Or.inl rfl)) (Or.inl rfl)), fun i h1 h2 => ?_, ?_⟩
    · rw [zUp_slot _ h2, zUp_slot _ (by omega), zUp_slot _ (by omega), zUp_slot _ (by omega), zUp_slot _ (by omega), lx]
    · rw [zUp_same, zUp_slot _ (by omega), zUp_slot _ (by omega), zUp_slot _ (by omega), zUp_slot _ (by omega), lx]
theorem nT94 {c : Nat} {y2 y3 : Int32} {ξ ζ : gM} (hc : c < 24) (e : fX12_trackRead_n94 (nI c) y2 y3 ξ = some ζ) (w : ζ 267 6 = 0) : nPG 12 ξ ζ ∧ (∀ i, i < 113 → i ≠ 3 → ζ 270 i = ξ 270 i) ∧ ζ 270 3 = ξ 270 3 + 1 := by
  unfold fX12_trackRead_n94 at e
  obtain ⟨μ10, e1, e2⟩ := bdI e
  obtain ⟨x11, μ12, e3, e4⟩ := bpI e2
  obtain ⟨x13, e5, e6⟩ := bdI e4
  have p1 : nPG 3 ξ μ10 := nAsks (k := 12) (by decide) rfl e1
  have p3 := p1.tr (nOne (by decide) e3).1
  have lx : μ12 270 = ξ 270 := (lX12_oneRead (LX.rf _) _ e3 270 (by decide)).trans (lX12_asks (LX.rf _) _ e1 270 (by decide))
  have key : fX12_trackRead_n138 (nI c) y2 y3 x11 μ12 = some ζ := by
    rcases nFine e5 with ⟨rfl, cx⟩ | ⟨cx, -⟩
    · rw [if_pos rfl] at e6; exact e6
    · rw [if_neg cx] at e6
      obtain ⟨x28, -, f2⟩ := bdI e6
      by_cases c : x28 = 0
      · rw [if_pos c] at f2; exact f2
      · rw [if_neg c] at f2
        obtain ⟨μ29, f3, f4⟩ := bdI f2
        exact absurd w (bX12_trackRead_n138 (SB.rf _) _ f4 (nFailK (by decide) f3))
  obtain ⟨q1, q2, q3⟩ := nT138 hc key w
  rw [lx] at q2 q3
  exact ⟨p3.tr q1, q2, q3⟩
theorem nTrack {c0 c1 c2 c3 : Nat} {ξ ζ : gM} (e : fX12_trackRead ξ = some ζ) (w : ζ 267 6 = 0) (t : nTP ξ) (r : nRI ξ c0 c1 c2 c3) (ws : nWS 5 ξ) : nTP ζ ∧ nRI ζ c0 c1 c2 (c3 + 1) ∧ nMc (ζ 270) = nMc (ξ 270) ∧ nPh ξ + 25 ≤ nPh ζ := by
  obtain ⟨⟨r0, r1, r2, r3⟩, b0, b1, b2, b3⟩ := r
  unfold fX12_trackRead at e
  rw [zLt_eq, r3] at e
  by_cases cc : nI c3 = 24
  · rw [if_pos cc] at e
    obtain ⟨x38, μ39, f1, f2⟩ := bpI e
    obtain ⟨μ40, f3, f4⟩ := bdI f2
    exact absurd w (bX12_trackRead_n23 (SB.rf _) _ f4 (nFailK (by decide) f3))
  · rw [if_neg cc] at e
    have c24 : c3 < 24 := by
      rcases Nat.lt_or_ge c3 24 with x | x
      · exact x
      · exact absurd (show nI c3 = 24 by rw [show c3 = 24 by omega]; rfl) cc
    unfold fX12_trackRead_n23 at e
    obtain ⟨x2, e1, e2⟩ := bdI e
    rcases nFine e1 with ⟨rfl, cx⟩ | ⟨cx, -⟩
    · rw [if_pos rfl] at e2
      obtain rfl := Option.some.inj e2
      exact absurd w cx
    · rw [if_neg cx] at e2
      obtain ⟨μ3, e3, e4⟩ := bdI e2
      obtain ⟨x4, μ5, e5, e6⟩ := bpI e4
      obtain ⟨μ6, e7, e8⟩ := bdI e6
      obtain ⟨x7, μ8, e9, e10⟩ := bpI e8
      obtain ⟨x9, e11, e12⟩ := bdI e10
      have p5 := (nOne (by decide) e5).1
      have p6 : nPG 3 μ5 μ6 := nAsks (k := 8) (by decide) rfl e7
      have p8 := (nOne (by decide) e9).1
      have l3 : μ3 270 = ξ 270 := lX12_pass (LX.rf _) _ e3 270 (by decide)
      have l5 : μ5 270 = μ3 270 := lX12_oneRead (LX.rf _) _ e5 270 (by decide)
      have l6 : μ6 270 = μ5 270 := lX12_asks (LX.rf _) _ e7 270 (by decide)
      have l8 : μ8 270 = μ6 270 := lX12_oneRead (LX.rf _) _ e9 270 (by decide)
      have lx : μ8 270 = ξ 270 := by rw [l8, l6, l5, l3]
      have key : fX12_trackRead_n94 (nI c3) x4 x7 μ8 = some ζ := by
        rcases nFine e11 with ⟨rfl, cx⟩ | ⟨cx, -⟩
        · rw [if_pos rfl] at e12; exact e12
        · rw [if_neg cx] at e12
          have e12 := ckI e12
          obtain ⟨x33, -, f2⟩ := bdI e12
          by_cases c : x33 = 0
          · rw [if_pos c] at f2
            obtain ⟨μ34, f3, f4⟩ := bdI f2
            exact absurd w (bX12_trackRead_n94 (SB.rf _) _ f4 (nFailK (by decide) f3))
          · rw [if_neg c] at f2; exact f2
      obtain ⟨q1, q2, q3⟩ := nT94 c24 key w
      obtain ⟨t3, qq, -⟩ := nPassW e3 ws
      obtain ⟨tz, qz⟩ := (((p5.tr p6).tr p8).tr q1).2 t3 w
      rw [lx] at q2 q3
      exact ⟨tz, ⟨⟨by rw [q2 0 (by decide) (by decide)]; exact r0, by rw [q2 1 (by decide) (by decide)]; exact r1, by rw [q2 2 (by decide) (by decide)]; exact r2, by rw [q3, r3]; exact nI_1 c3⟩, b0, b1, b2, by omega⟩, nMc_cg (fun i h1 h2 => q2 i (by omega) (by omega)), by omega⟩
/-- rows counted against the place -/
def nQ (μ : gM) : Prop := μ 267 6 = 0 → nTP μ ∧ ∃ c0 c1 c2 c3, nRI μ c0 c1 c2 c3 ∧ 7 * (c0 : Int) + 16 * (c2 : Int) + 25 * (c3 : Int) + 21 * (nMc (μ 270) : Int) ≤ (μ 267 4).toInt
theorem nStat {ξ ζ : gM} (e : fX12_statement ξ = some ζ) (q : nQ ξ) : nQ ζ := fun w => by
  have wx : ξ 267 6 = 0 := SB.c (bX12_statement (SB.rf ξ) _ e) w
  obtain ⟨t, c0, c1, c2, c3, r, b⟩ := q wx
  unfold fX12_statement at e
  obtain ⟨x1, μ2, e1, e2⟩ := bpI e
  obtain ⟨p1, s1⟩ := nStH e1
  have l1 : μ2 270 = ξ 270 := lX12_statementHere (LX.rf _) _ e1 270 (by decide)
  have pa := (nPh_at ξ).1
  have fin : ∀ (χ : gM) (d0 d1 d2 d3 : Nat), fX12_statement_n58 χ = some ζ → (χ 267 6 = 0 → nTP χ ∧ nRI χ d0 d1 d2 d3 ∧ 7 * (d0 : Int) + 16 * (d2 : Int) + 25 * (d3 : Int) + 21 * (nMc (χ 270) : Int) ≤ nPh χ) → nTP ζ ∧ ∃ c0 c1 c2 c3, nRI ζ c0 c1 c2 c3 ∧ 7 * (c0 : Int) + 16 * (c2 : Int) + 25 * (c3 : Int) + 21 * (nMc (ζ 270) : Int) ≤ (ζ 267 4).toInt := fun χ d0 d1 d2 d3 f g => by
    unfold fX12_statement_n58 at f
    obtain ⟨μ4, f1, f2⟩ := bdI f
    obtain rfl := Option.some.inj f2
    obtain ⟨n1, n2⟩ := nNeeds f1
    have wc := n1.1 w
    obtain ⟨tc, rc, bc⟩ := g wc
    have lz : μ4 270 = χ 270 := lX12_needsSign (LX.rf _) _ f1 270 (by decide)
    have := n2 tc w
    refine ⟨(n1.2 tc w).1, d0, d1, d2, d3, ?_, ?_⟩
    · unfold nRI at *
      rw [lz]; exact rc
    · rw [lz]; omega
  have got : ∀ k, μ2 267 6 = 0 → x1 = nI k → k < 5 → nTP μ2 ∧ nPh ξ ≤ nPh μ2 ∧ nRI μ2 c0 c1 c2 c3 ∧ nWS (if k = 2 then 5 else if k = 3 then 6 else if k = 4 then 5 else 4) μ2 := fun k w2 ek hk => by
    obtain ⟨t2, q2⟩ := p1.2 t w2
    refine ⟨t2, by omega, by unfold nRI at *; rw [l1]; exact r, ?_⟩
    have ck : k = 0 ∨ k = 1 ∨ k = 2 ∨ k = 3 ∨ k = 4 := by omega
    rcases s1 t w2 with ⟨h, ws⟩ | ⟨h, ws⟩ | ⟨h, ws⟩ | ⟨h, ws⟩ | ⟨h, ws⟩ | h <;> rcases ck with rfl | rfl | rfl | rfl | rfl <;> rw [h] at ek <;> first | exact ws | exact absurd ek (by decide)
  by_cases h1 : x1 = -1
  · rw [if_pos h1] at e2
    obtain ⟨μ11, f1, f2⟩ := bdI e2
    exact fin μ11 c0 c1 c2 c3 f2 (fun w2 => absurd w2 (nUnl f1))
  · rw [if_neg h1] at e2
    by_cases h2 : x1 = 2
    · rw [if_pos h2] at e2
      obtain ⟨μ9, f1, f2⟩ := bdI e2
      refine fin μ9 c0 c1 (c2 + 1) c3 f2 (fun w9 => ?_)
      obtain ⟨t2, q2, r2, ws⟩ := got 2 (SB.c (bX12_groupRead (SB.rf _) _ f1) w9) h2 (by decide)
      obtain ⟨a1, a2, a3, a4⟩ := nGroup f1 w9 t2 r2 ws
      exact ⟨a1, a2, by rw [a3, l1]; omega⟩
    · rw [if_neg h2] at e2
      by_cases h3 : (2 : Int32) ≤ x1
      · rw [if_pos h3] at e2
        by_cases h4 : x1 = 3
        · rw [if_pos h4] at e2
          obtain ⟨μ5, f1, f2⟩ := bdI e2
          refine fin μ5 c0 c1 c2 c3 f2 (fun w9 => ?_)
          obtain ⟨t2, q2, r2, ws⟩ := got 3 (SB.c (bX12_memberRead (SB.rf _) _ f1) w9) h4 (by decide)
          obtain ⟨a1, a2, a3, a4⟩ := nMember f1 w9 t2 r2 ws
          rw [l1] at a3
          exact ⟨a1, a2, by omega⟩
        · rw [if_neg h4] at e2
          obtain ⟨μ3, f1, f2⟩ := bdI e2
          refine fin μ3 c0 c1 c2 (c3 + 1) f2 (fun w9 => ?_)
          have w2 := SB.c (bX12_trackRead (SB.rf _) _ f1) w9
          have x4 : x1 = nI 4 := by
            rcases s1 t w2 with ⟨h, -⟩ | ⟨h, -⟩ | ⟨h, -⟩ | ⟨h, -⟩ | ⟨h, -⟩ | h
            · rw [h] at h3; exact absurd h3 (by decide)
            · rw [h] at h3; exact absurd h3 (by decide)
            · exact absurd h h2
            · exact absurd h h4
            · exact h
            · exact absurd h h1
          obtain ⟨t2, q2, r2, ws⟩ := got 4 w2 x4 (by decide)
          obtain ⟨a1, a2, a3, a4⟩ := nTrack f1 w9 t2 r2 ws
          exact ⟨a1, a2, by rw [a3, l1]; omega⟩
      · rw [if_neg h3] at e2
        obtain ⟨μ7, f1, f2⟩ := bdI e2
        have go : ∀ k, k < 2 → x1 = nI k → nTP ζ ∧ ∃ c0 c1 c2 c3, nRI ζ c0 c1 c2 c3 ∧ 7 * (c0 : Int) + 16 * (c2 : Int) + 25 * (c3 : Int) + 21 * (nMc (ζ 270) : Int) ≤ (ζ 267 4).toInt := fun k hk ek => by
          by_cases w7 : μ7 267 6 = 0
          · obtain ⟨t2, q2, r2, ws⟩ := got k (SB.c (bX12_namesRead (SB.rf _) _ f1) w7) ek (by omega)
            rw [if_neg (by omega), if_neg (by omega), if_neg (by omega)] at ws
            rw [ek] at f1
            obtain ⟨a1, d0, d1, a2, a3, a4⟩ := nNames hk f1 w7 t2 r2 ws
            exact fin μ7 d0 d1 c2 c3 f2 (fun _ => ⟨a1, a2, by rw [a3, l1]; omega⟩)
          · exact fin μ7 c0 c1 c2 c3 f2 (fun w9 => absurd w9 w7)
        by_cases w7 : μ7 267 6 = 0
        · have w2 := SB.c (bX12_namesRead (SB.rf _) _ f1) w7
          rcases s1 t w2 with ⟨h, -⟩ | ⟨h, -⟩ | ⟨h, -⟩ | ⟨h, -⟩ | ⟨h, -⟩ | h
          · exact go 0 (by decide) h
          · exact go 1 (by decide) h
          · exact absurd h h2
          · rw [h] at h3; exact absurd (by decide) h3
          · rw [h] at h3; exact absurd (by decide) h3
          · exact absurd h h1
        · exact fin μ7 c0 c1 c2 c3 f2 (fun w9 => absurd w9 w7)
theorem nQ.nx {μ ζ : gM} {v : Int32} (q : nQ μ) (e : fX12_next μ = some (v, ζ)) : nQ ζ := fun w => by
  have w2 : μ 267 6 = 0 := SB.c (bX12_next (SB.rf _) _ e) w
  obtain ⟨t, c0, c1, c2, c3, r, b⟩ := q w2
  obtain ⟨t2, -, a2, -⟩ := nNext e t
  have l : ζ 270 = μ 270 := lX12_next (LX.rf _) _ e 270 (by decide)
  refine ⟨t2, c0, c1, c2, c3, by unfold nRI at *; rw [l]; exact r, by rw [l]; omega⟩
theorem NF.tr {a b c : gM} (h : NF a b) (k : NF b c) : NF a c := ⟨fun i h1 h2 h3 => (k.1 i h1 h2 h3).trans (h.1 i h1 h2 h3), fun i hi => (k.2 i hi).trans (h.2 i hi)⟩
theorem NF.rf (ξ : gM) : NF ξ ξ := ⟨fun _ _ _ _ => rfl, fun _ _ => rfl⟩
theorem nOver {μ ζ : gM} {v : Int32} (e : fX12_isOver μ = some (v, ζ)) : ∃ u, fX12_next μ = some (u, ζ) := by
  unfold fX12_isOver at e
  obtain ⟨u, μ6, g1, g2⟩ := bpI e
  refine ⟨u, ?_⟩
  split at g2
  · obtain ⟨rfl, rfl⟩ := Prod.mk.inj (Option.some.inj g2)
    exact g1
  · obtain ⟨rfl, rfl⟩ := Prod.mk.inj (Option.some.inj g2)
    exact g1
theorem nNetL : ∀ (m : Nat) (y1 v : Int32) (μ ζ : gM), fX12_net_l33 m y1 μ = some (v, ζ) → nQ μ → ∃ χ, fX12_net_n92 χ = some (v, ζ) ∧ NF μ χ ∧ nQ χ := by
  intro m
  induction m with
  | zero => intro _ _ _ _ e; exact nomatch e
  | succ m ih =>
    intro y1 v μ ζ e q
    rw [fX12_net_l33] at e
    obtain ⟨x3, e1, e2⟩ := bdI e
    rcases nFine e1 with ⟨rfl, cx⟩ | ⟨cx, -⟩
    · rw [if_pos rfl] at e2
      exact ⟨μ, e2, NF.rf _, q⟩
    · rw [if_neg cx] at e2
      obtain ⟨x17, μ18, e3, e4⟩ := bpI e2
      obtain ⟨u, e3'⟩ := nOver e3
      have q18 := q.nx e3'
      have f18 : NF μ μ18 := wX12_isOver (NF.rf _) _ e3
      have n75 : ∀ (χ : gM), nQ χ → NF μ χ → fX12_net_n75 (fX12_net_l33 m) y1 χ = some (v, ζ) → ∃ χ, fX12_net_n92 χ = some (v, ζ) ∧ NF μ χ ∧ nQ χ := fun χ qc fc g => by
        unfold fX12_net_n75 at g
        obtain ⟨x19, g1, g2⟩ := bdI g
        rcases nFine g1 with ⟨rfl, cx⟩ | ⟨cx, -⟩
        · rw [if_pos rfl, zLt_eq] at g2
          obtain ⟨χ', h1, h2, h3⟩ := ih _ _ _ _ g2 qc
          exact ⟨χ', h1, fc.tr h2, h3⟩
        · rw [if_neg cx] at g2
          obtain ⟨μ21, g3, g4⟩ := bdI g2
          rw [zLt_eq] at g4
          obtain ⟨χ', h1, h2, h3⟩ := ih _ _ _ _ g4 (nStat g3 qc)
          exact ⟨χ', h1, (fc.tr (wX12_statement (NF.rf _) _ g3)).tr h2, h3⟩
      by_cases c17 : x17 = 0
      · rw [if_pos c17] at e4
        by_cases c60 : y1 = 60
        · rw [if_pos c60] at e4
          obtain ⟨x24, μ25, e5, e6⟩ := bpI e4
          have f25 := f18.tr (wX12_statementHere (NF.rf _) _ e5)
          have n68 : ∀ z : Int32, z ≠ 0 → fX12_net_n68 (fX12_net_l33 m) y1 z μ25 = some (v, ζ) → ∃ χ, fX12_net_n92 χ = some (v, ζ) ∧ NF μ χ ∧ nQ χ := fun z hz g => by
            unfold fX12_net_n68 at g
            obtain ⟨x26, μ27, g1, g2⟩ := bpI g
            obtain ⟨μ28, g3, g4⟩ := bdI g2
            exact n75 μ28 (fun w => absurd w (nFailK hz g3)) ((f25.tr (wX12_next (NF.rf _) _ g1)).tr (wX12_fail (NF.rf _) _ g3)) g4
          by_cases c24 : x24 = -1
          · rw [if_pos c24] at e6
            exact n68 1 (by decide) e6
          · rw [if_neg c24] at e6
            exact n68 6 (by decide) e6
        · rw [if_neg c60] at e4
          exact n75 μ18 q18 f18 e4
      · rw [if_neg c17] at e4
        exact ⟨μ18, e4, f18, q18⟩
