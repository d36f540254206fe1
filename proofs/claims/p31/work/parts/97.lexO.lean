/-! a member that is told, tracks -/
def mKM (q : Nat) (ξ : gM) (f : Int32 → Int32 → gM → Option gM) : Option gM := zBp (fX12_oneRead q (0 : Int32) ξ) (fun x4 μ5 => zBd (fX12_asks (486 : Int32) μ5) (fun μ6 => zBp (fX12_oneRead q (2 : Int32) μ6) (fun x7 μ8 => zBd (fX12_isFine μ8) (fun x9 => (if x9 = 0 then (f x4 x7 μ8) else zCk (gIn ((48 : Int32) + x7) 209) (zBd (fX12_isOf (μ8 q (((48 : Int32) + x7)).toNatClampNeg) x4 μ8) (fun x33 => (if x33 = 0 then zBd (fX12_fail (5 : Int32) (μ8 267 16) μ8) (fun μ34 => (f x4 x7 μ34)) else (f x4 x7 μ8)))))))))
theorem NT.fr {p q t : Nat} {μ ξ μ' ξ' : gM} (h : NT p q t μ ξ) (h1 : p + 1 ≠ 1) (h2 : p + 2 ≠ 1) (hq : q ≠ 267) (c : ∀ a, a ≠ 1 → μ' a = μ a) (f : ∀ a, a ≠ 267 → ξ' a = ξ a) : NT p q t μ' ξ' := by
  unfold NT at *
  rw [c (p + 1) h1, c (p + 2) h2, f q hq]
  exact h
theorem pKM {b : Nat → Nat} {n s p q : Nat} {g : Int} {μ ξ : gM} {f : Int32 → Int32 → gM → Option gM} (hq : q ≠ 267) (hp : p ≠ 0) (h : SIM b n s g μ ξ) (n0 : NT p q 0 μ ξ) (n2 : NT p q 2 μ ξ) (mb : ∀ i : Nat, i < 5 → μ (p + 7) i = ξ q (48 + i)) (c0 : (ξ q 0).toInt ≤ 6) (c2 : (ξ q 2).toInt ≤ 5) : ∃ (x y z : Int32) (μ' ξ' : gM), fX7_knownMember p μ = some (x, μ') ∧ mKM q ξ f = f y z ξ' ∧ CF μ μ' ∧ MF pF ξ ξ' ∧ ((∃ k gq : Nat, k < 6 ∧ gq < 5 ∧ y = nI k ∧ z = nI gq ∧ x = nI (6 * gq + k) ∧ bitAt (ξ q (48 + gq)) (nI k) ∧ (k : Int) < (ξ q 0).toInt ∧ (gq : Int) < (ξ q 2).toInt ∧ ∃ s' g', SIM b n s' g' μ' ξ') ∨ (x = -1 ∧ FLT b n μ' ξ')) := by
  obtain ⟨x, y, μ3, ξ3, u1, u2, cf3, mf3, p3, u3⟩ := pKnown (p := p) (q := q) (t := 0) (a := 0) (by decide) rfl hq h n0
  unfold fX7_knownMember mKM
  rw [u1, u2, zBp_some, zBp_some]
  rcases u3 with ⟨rfl, ⟨k, ek, kk⟩, s3, g3, h3⟩ | ⟨rfl, rfl, fl⟩
  · subst ek
    rw [if_neg (nI_nm (by omega))]
    obtain ⟨v2, μ5, ξ5, a1, a2, a3, a4, a5⟩ := pAsks (k := 8) (a := 8) (w := 486) (by decide) rfl rfl h3
    rw [a1, a2, zBp_some, zBd_some]
    have cf5 := cf3.tr a3
    have mf5 := mf3.trF a4
    rcases a5 with ⟨rfl, s5, g5, h5⟩ | ⟨rfl, fl⟩
    · rw [if_neg one_n0]
      simp only [zLt]
      obtain ⟨x6, y6, μ7, ξ7, c1, c3, c4, c5, p7, c6⟩ := pKnown (p := p) (q := q) (t := 2) (a := 2) (by decide) rfl hq h5 (n2.fr (by omega) (by omega) hq cf5.1 mf5.1)
      rw [c1, c3, zBp_some, zBp_some]
      have cf7 := cf5.tr c4
      have mf7 := mf5.trF c5
      rcases c6 with ⟨rfl, ⟨gq, eg, gg⟩, s7, g7, h7⟩ | ⟨rfl, rfl, fl⟩
      · subst eg
        have e5 : ξ5 q = ξ q := mf5.1 q hq
        have e7 : ξ7 q = ξ q := mf7.1 q hq
        rw [e5] at gg
        have gc : gq < 5 := by omega
        have t3 : (nI gq).toInt = gq := nI_toInt (by omega)
        have t2 : (nI k).toInt = k := nI_toInt (by omega)
        have i48 : ((48 : Int32) + nI gq).toInt = ((48 + gq : Nat) : Int) := (iA (iL (48) (48) rfl) t3 (by omega) (by omega)).trans (by omega)
        have i6 : (nI gq * (6 : Int32) + nI k).toInt = ((6 * gq + k : Nat) : Int) := (iA (iM t3 (iL (6) (6) rfl) (by omega) (by omega)) t2 (by omega) (by omega)).trans (by omega)
        rw [if_neg (nI_nm (by omega)), mFine1 h7.2.2.2.2.2.2, zBd_some, if_neg one_n0]
        unfold zCk
        rw [if_pos (zIn i48 (by omega) (by omega)), cl_of i48, cMem (p := p) (q := q) (ξ' := ξ7) (n0.fr (by omega) (by omega) hq cf7.1 mf7.1) (n2.fr (by omega) (by omega) hq cf7.1 mf7.1) (by rw [cf7.1 (p + 7) (by omega), e7]; exact mb gq gc) (by rw [e7]; exact kk) (by rw [e7]; exact gg) gc]
        unfold fX12_isOf
        rw [e7]
        by_cases cb : ((ξ q (48 + gq) >>> (nI k &&& 31)) &&& (1 : Int32)) = (1 : Int32)
        · rw [if_pos cb, zBd_some, zBd_some, if_neg one_n0, if_neg one_n0]
          exact ⟨_, nI k, nI gq, μ7, ξ7, rfl, rfl, cf7, mf7, Or.inl ⟨k, gq, by omega, gc, rfl, rfl, nI_of' i6, cb, kk, gg, s7, g7, h7⟩⟩
        · rw [if_neg cb, zBd_some, zBd_some, if_pos rfl, if_pos rfl]
          obtain ⟨ν, r1, r2, r3, r4⟩ := cRefuse (k := 5) (p := μ5 1 5) (μ := μ7)
          obtain ⟨ζ, z0, z1, z2, z3⟩ := mFail (k := 5) (p := ξ7 267 16) h7.2.2.2.2.2.2
          obtain ⟨m1, p, m2, m3⟩ := h7.mp
          have bz : ζ 267 6 ≠ 0 := by rw [z1]; decide
          have mz : MP b n ζ := ⟨m1.mf z3 (by omega), p, by rw [z3.2 4 (by omega)]; exact m2, m3⟩
          have f7 : MF pF ξ7 ζ := z3.tr (MF.rf (P := pF) _) (fun i w => by unfold pF; omega) (fun _ w => w)
          rw [r1, zBp_some, z0, zBd_some]
          exact ⟨-1, nI k, nI gq, ν, ζ, rfl, rfl, cf7.tr r4, mf7.trF f7, Or.inr ⟨rfl, r2.trans z1.symm, by rw [r3, z2]; exact i_eq h5.2.1.1 p7, bz, mz⟩⟩
      · rw [if_pos rfl, mFine0 fl.2.2.1, zBd_some, if_pos rfl]
        exact ⟨-1, nI k, -1, μ7, ξ7, rfl, rfl, cf7, mf7, Or.inr ⟨rfl, fl⟩⟩
    · rw [if_pos rfl]
      obtain ⟨ζ, z0, z1, z2⟩ := bOne (q := q) (a := 2) fl.2.2.2 fl.2.2.1
      have bz : ζ 267 6 ≠ 0 := by rw [z1.bad]; exact fl.2.2.1
      rw [z0, zBp_some, mFine0 bz, zBd_some, if_pos rfl]
      exact ⟨-1, nI k, -1, μ5, ζ, rfl, rfl, cf5, mf5.trF (MF.tr z1 (MF.rf (P := pF) _) (fun i w => by unfold pF; omega) (fun _ w => w)), Or.inr ⟨rfl, fl.bf z1 z2⟩⟩
  · rw [if_pos rfl, bAsks fl.2.2.1, zBd_some]
    obtain ⟨ζ, z0, z1, z2⟩ := bOne (q := q) (a := 2) fl.2.2.2 fl.2.2.1
    have bz : ζ 267 6 ≠ 0 := by rw [z1.bad]; exact fl.2.2.1
    rw [z0, zBp_some, mFine0 bz, zBd_some, if_pos rfl]
    exact ⟨-1, -1, -1, μ3, ζ, rfl, rfl, cf3, mf3.trF (MF.tr z1 (MF.rf (P := pF) _) (fun i w => by unfold pF; omega) (fun _ w => w)), Or.inr ⟨rfl, fl.bf z1 z2⟩⟩
theorem pTr_l {ct gq k : Nat} {μ ξ : gM} {z : Int32} (hk : k < 6) (hg : gq < 5) (h3 : ξ 270 3 = nI ct) (h10 : μ 18 10 = nI ct) (hc : ct ≤ 24) (tk : TKl μ ξ ct) : ∀ (m t : Nat) (y : Int32), y.toInt = t → t ≤ ct → 24 < t + m → ∃ v, fX1_isTracked_l2 18 m (nI (6 * gq + k)) z y μ = some v ∧ fX12_isTrack_l3 m (nI gq) (nI k) z y ξ = some v ∧ (v = 0 ∨ v = 1) := by
  intro m
  induction m with
  | zero =>
    intro t y hy ht gm
    exact absurd gm (by omega)
  | succ m ih =>
    intro t y hy ht gm
    rw [fX1_isTracked_l2, fX12_isTrack_l3, h3, h10]
    have tc : (nI ct).toInt = ct := nI_toInt (by omega)
    by_cases c : nI ct ≤ y
    · rw [if_pos c, if_pos c]
      exact ⟨0, rfl, rfl, Or.inl rfl⟩
    · rw [if_neg c, if_neg c]
      have c' : ¬ (nI ct).toInt ≤ y.toInt := fun w => c (Int32.le_iff_toInt_le.mpr w)
      have lt : t < ct := by omega
      have z24 : (24 : Int32).toInt = 24 := rfl
      rw [if_neg (fun w => by have := Int32.le_iff_toInt_le.mp w; omega)]
      obtain ⟨g', j, q1, q2, q3, q4, q5, q6, -⟩ := tk t lt
      have i0 : ((113 : Int32) + (4 : Int32) * y).toInt = ((113 + 4 * t : Nat) : Int) := (iA (iL (113) (113) rfl) (iM (iL (4) (4) rfl) hy (by omega) (by omega)) (by omega) (by omega)).trans (by omega)
      have i1 : ((113 : Int32) + (4 : Int32) * y + 1).toInt = ((113 + 4 * t + 1 : Nat) : Int) := (iA i0 (iL (1) (1) rfl) (by omega) (by omega)).trans (by omega)
      have i2 : ((113 : Int32) + (4 : Int32) * y + 2).toInt = ((113 + 4 * t + 2 : Nat) : Int) := (iA i0 (iL (2) (2) rfl) (by omega) (by omega)).trans (by omega)
      have nx : (y + 1).toInt = ((t + 1 : Nat) : Int) := (iA hy (iL (1) (1) rfl) (by omega) (by omega)).trans (by omega)
      have go := ih (t + 1) (y + 1) nx (by omega) (by omega)
      simp only [zCk, zLt]
      rw [if_pos (zIn hy (by omega) (by omega)), if_pos (zIn i0 (by omega) (by omega)), cl_of hy, cl_of i0, q5, q3]
      by_cases e1 : g' = gq
      · subst e1
        rw [if_pos (rfl : nI g' = nI g'), if_pos (zIn i1 (by omega) (by omega)), cl_of i1, q4]
        by_cases e2 : j = k
        · subst e2
          rw [if_pos rfl, if_pos rfl, if_pos (zIn hy (by omega) (by omega)), if_pos (zIn i2 (by omega) (by omega)), cl_of i2, q6]
          by_cases e3 : ξ 270 (113 + 4 * t + 2) = z
          · rw [if_pos e3, if_pos e3]
            exact ⟨1, rfl, rfl, Or.inr rfl⟩
          · rw [if_neg e3, if_neg e3]
            exact go
        · rw [if_neg (fun w => e2 (by have := nI_inj (by omega) (by omega) w; omega)), if_neg (fun w => e2 (nI_inj (by omega) (by omega) w))]
          exact go
      · rw [if_neg (fun w => e1 (nI_inj (by omega) (by omega) w)), if_neg (fun w => e1 (by have := nI_inj (by omega) (by omega) w; omega))]
        exact go
theorem pTrackEnd {b : Nat → Nat} {n s gq k ct : Nat} {g : Int} {μ ξ : gM} {y3 z0 : Int32} (h : SIM b n s g μ ξ) (dr : DR μ ξ) (hk : k < 6) (hg : gq < 5) (hct : ξ 270 3 = nI ct) (hc : ct < 24) (hz : z0 ≠ -1) (tb : TBd y3 z0) : ∃ μ' ξ', fX2_readTrack_n108 (nI (6 * gq + k)) y3 z0 μ = some (1, μ') ∧ (zCk (gIn ((113 : Int32) + ((4 : Int32) * nI ct)) 209) (zLt (gUp ξ 270 (((113 : Int32) + ((4 : Int32) * nI ct))).toNatClampNeg (nI gq)) (fun μ19 => zCk (gIn (((113 : Int32) + ((4 : Int32) * nI ct)) + (1 : Int32)) 209) (zLt (gUp μ19 270 ((((113 : Int32) + ((4 : Int32) * nI ct)) + (1 : Int32))).toNatClampNeg (nI k)) (fun μ21 => zCk (gIn (((113 : Int32) + ((4 : Int32) * nI ct)) + (2 : Int32)) 209) (zLt (gUp μ21 270 ((((113 : Int32) + ((4 : Int32) * nI ct)) + (2 : Int32))).toNatClampNeg y3) (fun μ23 => zCk (gIn (((113 : Int32) + ((4 : Int32) * nI ct)) + (3 : Int32)) 209) (zLt (gUp μ23 270 ((((113 : Int32) + ((4 : Int32) * nI ct)) + (3 : Int32))).toNatClampNeg z0) (fun μ25 => zLt (gUp μ25 270 3 ((μ25 270 3) + (1 : Int32))) (fun μ26 => (some μ26)))))))))) : Option gM) = some ξ' ∧ Both b n μ ξ 1 μ' ξ' := by
  have tc : (nI ct).toInt = ct := nI_toInt (by omega)
  have g24 : gIn (nI ct) 24 = true := zIn tc (by omega) (by omega)
  have i0 : ((113 : Int32) + (4 : Int32) * nI ct).toInt = ((113 + 4 * ct : Nat) : Int) := (iA (iL (113) (113) rfl) (iM (iL (4) (4) rfl) tc (by omega) (by omega)) (by omega) (by omega)).trans (by omega)
  have i1 : ((113 : Int32) + (4 : Int32) * nI ct + 1).toInt = ((113 + 4 * ct + 1 : Nat) : Int) := (iA i0 (iL (1) (1) rfl) (by omega) (by omega)).trans (by omega)
  have i2 : ((113 : Int32) + (4 : Int32) * nI ct + 2).toInt = ((113 + 4 * ct + 2 : Nat) : Int) := (iA i0 (iL (2) (2) rfl) (by omega) (by omega)).trans (by omega)
  have i3 : ((113 : Int32) + (4 : Int32) * nI ct + 3).toInt = ((113 + 4 * ct + 3 : Nat) : Int) := (iA i0 (iL (3) (3) rfl) (by omega) (by omega)).trans (by omega)
  obtain ⟨⟨n0, n1, n2⟩, mb, mw, cg, ct', l1, l2, l3, l4, l5, l6, gr, tk⟩ := dr
  have ec : ct' = ct := nI_inj (by omega) (by omega) (l5.symm.trans hct)
  subst ec
  generalize eA : gUp (gUp (gUp (gUp μ 28 ct' (nI (6 * gq + k))) 29 ct' y3) 30 ct' z0) 18 10 (nI (ct' + 1)) = μA
  have fA : fX2_readTrack_n108 (nI (6 * gq + k)) y3 z0 μ = some (1, μA) := by
    unfold fX2_readTrack_n108
    simp only [zCk, zLt]
    rw [l6, if_pos g24, if_pos g24, if_pos g24, cl_of tc, show nI ct' + (1 : Int32) = nI (ct' + 1) from nI_1 ct', eA, if_neg hz]
  generalize eB : gUp (gUp (gUp (gUp ξ 270 (113 + 4 * ct') (nI gq)) 270 (113 + 4 * ct' + 1) (nI k)) 270 (113 + 4 * ct' + 2) y3) 270 (113 + 4 * ct' + 3) z0 = ξB
  have b3 : ξB 270 3 = nI ct' := by rw [← eB, zUp_slot _ (by omega), zUp_slot _ (by omega), zUp_slot _ (by omega), zUp_slot _ (by omega), hct]
  generalize eC' : gUp ξB 270 3 (nI (ct' + 1)) = ξC
  refine ⟨μA, ξC, fA, ?_, ?_⟩
  · simp only [zCk, zLt]
    rw [if_pos (zIn i0 (by omega) (by omega)), if_pos (zIn i1 (by omega) (by omega)), if_pos (zIn i2 (by omega) (by omega)), if_pos (zIn i3 (by omega) (by omega)), cl_of i0, cl_of i1, cl_of i2, cl_of i3, eB, b3, show nI ct' + (1 : Int32) = nI (ct' + 1) from nI_1 ct', eC']
  have wA : ∀ a, a ≠ 18 → a ≠ 28 → a ≠ 29 → a ≠ 30 → μA a = μ a := fun a h0 h1 h2 h3 => by rw [← eA, zUp_ne _ h0, zUp_ne _ h3, zUp_ne _ h2, zUp_ne _ h1]
  have a18 : μA 18 10 = nI (ct' + 1) := by rw [← eA, zUp_same]
  have a28 : ∀ j, μA 28 j = if j = ct' then nI (6 * gq + k) else μ 28 j := fun j => by rw [← eA, zUp_ne _ (by decide), zUp_ne _ (by decide), zUp_ne _ (by decide), zUp_at, if_pos rfl]
  have a29 : ∀ j, μA 29 j = if j = ct' then y3 else μ 29 j := fun j => by rw [← eA, zUp_ne _ (by decide), zUp_ne _ (by decide), zUp_at, if_pos rfl, zUp_ne _ (by decide)]
  have a30 : ∀ j, μA 30 j = if j = ct' then z0 else μ 30 j := fun j => by rw [← eA, zUp_ne _ (by decide), zUp_at, if_pos rfl, zUp_ne _ (by decide), zUp_ne _ (by decide)]
  have wC : ∀ a, a ≠ 270 → ξC a = ξ a := fun a ha => by rw [← eC', zUp_ne _ ha, ← eB, zUp_ne _ ha, zUp_ne _ ha, zUp_ne _ ha, zUp_ne _ ha]
  have ok : ∀ j, j ≠ 3 → (j < 113 + 4 * ct' ∨ 113 + 4 * ct' + 3 < j) → ξC 270 j = ξ 270 j := fun j h0 h1 => by rw [← eC', zUp_slot _ h0, ← eB, zUp_slot _ (by omega), zUp_slot _ (by omega), zUp_slot _ (by omega), zUp_slot _ (by omega)]
  have o3 : ξC 270 3 = nI (ct' + 1) := by rw [← eC', zUp_same]
  have p0 : ξC 270 (113 + 4 * ct') = nI gq := by rw [← eC', zUp_slot _ (by omega), ← eB, zUp_slot _ (by omega), zUp_slot _ (by omega), zUp_slot _ (by omega), zUp_same]
  have p1 : ξC 270 (113 + 4 * ct' + 1) = nI k := by rw [← eC', zUp_slot _ (by omega), ← eB, zUp_slot _ (by omega), zUp_slot _ (by omega), zUp_same]
  have p2 : ξC 270 (113 + 4 * ct' + 2) = y3 := by rw [← eC', zUp_slot _ (by omega), ← eB, zUp_slot _ (by omega), zUp_same]
  have p3 : ξC 270 (113 + 4 * ct' + 3) = z0 := by rw [← eC', zUp_slot _ (by omega), ← eB, zUp_same]
  refine ⟨⟨fun a h1 h2 => wA a (by omega) (by omega) (by omega) (by omega), by rw [wA 1 (by decide) (by decide) (by decide) (by decide)]⟩, ⟨fun a h1 h2 => wC a h2, fun i hi => by rw [wC 267 (by decide)]⟩, Or.inl ⟨rfl, ⟨s, g, h.fr (wA 1 (by decide) (by decide) (by decide) (by decide)) (wA 2 (by decide) (by decide) (by decide) (by decide)) (wA 3 (by decide) (by decide) (by decide) (by decide)) (wC 267 (by decide)) (wC 268 (by decide))⟩, ?_⟩⟩
  have ntk : ∀ t, t < 3 → NT 18 270 t μ ξ → NT 18 270 t μA ξC := fun t ht nt => by
    obtain ⟨u1, u2, u3⟩ := nt
    have et : ξC 270 t = ξ 270 t := ok t (by omega) (by omega)
    refine ⟨?_, by rw [et]; exact u2, fun j hj => ?_⟩
    · show μA 19 t = ξC 270 t
      rw [wA 19 (by decide) (by decide) (by decide) (by decide), et]; exact u1
    · rw [et] at hj
      show NM (μA 20 (t * 8 + j)) (ξC 270 (4 + 8 * t + j))
      rw [wA 20 (by decide) (by decide) (by decide) (by decide), ok _ (by omega) (by omega)]
      exact u3 j hj
  refine ⟨⟨ntk 0 (by decide) n0, ntk 1 (by decide) n1, ntk 2 (by decide) n2⟩, fun g' hg' => ?_, fun g' j hg' hj hb => ?_, cg, ct' + 1, l1, by omega, ?_, ?_, o3, a18, fun g' hg' => ?_, fun t ht => ?_⟩
  · rw [wA 25 (by decide) (by decide) (by decide) (by decide), ok (48 + g') (by omega) (by omega)]
    exact mb g' hg'
  · rw [ok (48 + g') (by omega) (by omega)] at hb
    rw [wA 26 (by decide) (by decide) (by decide) (by decide), wA 27 (by decide) (by decide) (by decide) (by decide), ok (53 + (6 * g' + j)) (by omega) (by omega), ok (83 + (6 * g' + j)) (by omega) (by omega)]
    rw [ok 0 (by omega) (by omega), ok 2 (by omega) (by omega)]
    exact mw g' j hg' hj hb
  · rw [ok 0 (by omega) (by omega)]; exact l3
  · rw [ok 2 (by omega) (by omega)]; exact l4
  · rw [wA 21 (by decide) (by decide) (by decide) (by decide), wA 22 (by decide) (by decide) (by decide) (by decide), wA 23 (by decide) (by decide) (by decide) (by decide), wA 24 (by decide) (by decide) (by decide) (by decide), ok (28 + g') (by omega) (by omega), ok (33 + g') (by omega) (by omega), ok (38 + g') (by omega) (by omega), ok (43 + g') (by omega) (by omega)]
    exact gr g' hg'
  · rw [a28, a29, a30]
    by_cases e : t = ct'
    · subst e
      rw [if_pos rfl, if_pos rfl, if_pos rfl]
      exact ⟨gq, k, hg, hk, p0, p1, rfl, p2.symm, p3.symm, by rw [p2, p3]; exact tb⟩
    · rw [if_neg e, if_neg e, if_neg e, ok _ (by omega) (by omega), ok _ (by omega) (by omega), ok _ (by omega) (by omega), ok _ (by omega) (by omega)]
      exact tk t (by omega)
theorem bTr138 {b : Nat → Nat} {n : Nat} {y1 y2 y3 y4 : Int32} {ξ : gM} (m : MP b n ξ) (hb : ξ 267 6 ≠ 0) : ∃ ζ, fX12_trackRead_n138 y1 y2 y3 y4 ξ = some ζ ∧ BF ξ ζ ∧ MP b n ζ := by
  obtain ⟨ζ, z0, z1, z2⟩ := bNumber (a1 := 1) (a2 := 254) m hb
  have bz : ζ 267 6 ≠ 0 := by rw [z1.bad]; exact hb
  unfold fX12_trackRead_n138
  rw [bAsks hb, zBd_some, z0, zBp_some, mFine0 bz, zBd_some, if_pos rfl]
  exact ⟨ζ, rfl, z1, z2⟩
theorem bTr94 {b : Nat → Nat} {n : Nat} {y1 y2 y3 : Int32} {ξ : gM} (m : MP b n ξ) (hb : ξ 267 6 ≠ 0) : ∃ ζ, fX12_trackRead_n94 y1 y2 y3 ξ = some ζ ∧ BF ξ ζ ∧ MP b n ζ := by
  obtain ⟨ζ, z0, z1, z2⟩ := bOne (q := 270) (a := 1) m hb
  have bz : ζ 267 6 ≠ 0 := by rw [z1.bad]; exact hb
  obtain ⟨χ, q0, q1, q2⟩ := bTr138 (y1 := y1) (y2 := y2) (y3 := y3) (y4 := -1) z2 bz
  unfold fX12_trackRead_n94
  rw [bAsks hb, zBd_some, z0, zBp_some, mFine0 bz, zBd_some, if_pos rfl, q0]
  exact ⟨χ, rfl, z1.tr q1, q2⟩
/-- the class lays a track also where its last number is refused: nothing reads it -/
theorem cTr108 {b : Nat → Nat} {n ct : Nat} {μ ξ : gM} {y1 y3 : Int32} (hc : ct < 24) (h10 : μ 18 10 = nI ct) (fl : FLT b n μ ξ) : ∃ μ', fX2_readTrack_n108 y1 y3 (-1) μ = some (0, μ') ∧ XF μ μ' ∧ FLT b n μ' ξ := by
  have tc : (nI ct).toInt = ct := nI_toInt (by omega)
  have g24 : gIn (nI ct) 24 = true := zIn tc (by omega) (by omega)
  unfold fX2_readTrack_n108
  simp only [zCk, zLt]
  rw [h10, if_pos g24, if_pos g24, if_pos g24, if_pos trivial]
  refine ⟨_, rfl, ⟨fun a h1 h2 => ?_, ?_⟩, ?_⟩
  · rw [zUp_ne _ (by omega), zUp_ne _ (by omega), zUp_ne _ (by omega), zUp_ne _ (by omega)]
  · rw [zUp_ne _ (by decide), zUp_ne _ (by decide), zUp_ne _ (by decide), zUp_ne _ (by decide)]
  · unfold FLT at *
    rw [zUp_ne _ (show (1 : Nat) ≠ 18 by decide), zUp_ne _ (show (1 : Nat) ≠ 30 by decide), zUp_ne _ (show (1 : Nat) ≠ 29 by decide), zUp_ne _ (show (1 : Nat) ≠ 28 by decide)]
    exact fl
theorem pTr138 {b : Nat → Nat} {n s gq k ct : Nat} {g : Int} {μ ξ : gM} {z : Int32} (h : SIM b n s g μ ξ) (dr : DR μ ξ) (hk : k < 6) (hg : gq < 5) (hct : ξ 270 3 = nI ct) (hc : ct < 24) (z7 : 0 ≤ z.toInt ∧ z.toInt ≤ 7) : ∃ v μ' ξ', zBp (fX7_pass (13 : Int32) μ) (fun x9 μ10 => (if x9 = 0 then (fX2_readTrack_n108 (nI (6 * gq + k)) z (-1 : Int32) μ10) else zBp (fX7_number (1 : Int32) (254 : Int32) μ10) (fun x20 μ21 => (fX2_readTrack_n108 (nI (6 * gq + k)) z x20 μ21)))) = some (v, μ') ∧ fX12_trackRead_n138 (nI ct) (nI k) (nI gq) z ξ = some ξ' ∧ Both b n μ ξ v μ' ξ' := by
  have h10 : μ 18 10 = nI ct := by
    obtain ⟨-, -, -, cg, ct', l1, l2, l3, l4, l5, l6, -⟩ := dr
    rw [l6, ← l5, hct]
  unfold fX12_trackRead_n138
  obtain ⟨v2, μ3, ξ3, a1, a2, a3, a4, a5⟩ := pAsks (k := 13) (a := 13) (w := 398963) (by decide) rfl rfl h
  rw [a1, a2, zBp_some, zBd_some]
  rcases a5 with ⟨rfl, s3, g3, h3⟩ | ⟨rfl, fl⟩
  · rw [if_neg one_n0]
    obtain ⟨x, y, μ5, ξ5, b1, b2, b3, b4, b5⟩ := pNumber (lo := 1) (hi := 254) (by decide) h3
    rw [b1, b2, zBp_some, zBp_some]
    have cf5 := a3.tr b3
    have mf5 := a4.trF b4
    rcases b5 with ⟨rfl, r1, r2, s5, g5, h5⟩ | ⟨rfl, fl⟩
    · have xn : x ≠ -1 := fun q => by
        rw [q] at r1
        have t1 : (-1 : Int32).toInt = -1 := rfl
        have t2 : (1 : Int32).toInt = 1 := rfl
        omega
      rw [mFine1 h5.2.2.2.2.2.2, zBd_some, if_neg one_n0]
      obtain ⟨μ', ξ', w1, w2, w3⟩ := pTrackEnd (y3 := z) (z0 := x) (ct := ct) h5 (dr.fr cf5.1 mf5.1) hk hg (by rw [mf5.1 270 (by decide)]; exact hct) hc xn ⟨z7, r1, r2⟩
      exact ⟨1, μ', ξ', w1, w2, w3.pre cf5 mf5⟩
    · rw [mFine0 fl.2.2.1, zBd_some, if_pos rfl]
      obtain ⟨μ', w1, w2, w3⟩ := cTr108 (y1 := nI (6 * gq + k)) (y3 := z) hc (by rw [cf5.1 18 (by decide)]; exact h10) fl
      exact ⟨0, μ', ξ5, w1, rfl, bothG (cf5.xf.tr w2) mf5.yf w3⟩
  · rw [if_pos rfl]
    obtain ⟨μ', w1, w2, w3⟩ := cTr108 (y1 := nI (6 * gq + k)) (y3 := z) hc (by rw [a3.1 18 (by decide)]; exact h10) fl
    obtain ⟨ζ, z0, z1, z2⟩ := bNumber (a1 := 1) (a2 := 254) fl.2.2.2 fl.2.2.1
    have bz : ζ 267 6 ≠ 0 := by rw [z1.bad]; exact fl.2.2.1
    rw [z0, zBp_some, mFine0 bz, zBd_some, if_pos rfl]
    exact ⟨0, μ', ζ, w1, rfl, bothF (a3.xf.tr w2) a4.yf w3 z1 z2⟩
theorem pTrack {b : Nat → Nat} {n s ct : Nat} {g : Int} {μ ξ : gM} (h : SIM b n s g μ ξ) (dr : DR μ ξ) (hct : ξ 270 3 = nI ct) (hc : ct < 24) : ∃ v μ' ξ', fX2_readTrack μ = some (v, μ') ∧ mKM 270 ξ (fX12_trackRead_n94 (nI ct)) = some ξ' ∧ Both b n μ ξ v μ' ξ' := by
  obtain ⟨cg, ct', l1, l2, l3, l4, l5, l6, -, tk0⟩ := id dr.2.2.2
  have tcg : (nI cg).toInt = cg := nI_toInt (by omega)
  have ec : ct' = ct := nI_inj (by omega) (by omega) (l5.symm.trans hct)
  subst ec
  obtain ⟨x, y, z, μ3, ξ3, u1, u2, cf3, mf3, u3⟩ := pKM (f := fX12_trackRead_n94 (nI ct')) (p := 18) (q := 270) (by decide) (by decide) h dr.1.1 dr.1.2.2 (fun i hi => (dr.2.1 i hi).1) l3 (by rw [l4, tcg]; omega)
  unfold fX2_readTrack
  rw [u1, u2, zBp_some]
  rcases u3 with ⟨k, gq, hk, hg, rfl, rfl, rfl, -, -, -, s3, g3, h3⟩ | ⟨rfl, fl⟩
  · rw [if_neg (nI_nm (by omega))]
    unfold fX12_trackRead_n94
    obtain ⟨v2, μ5, ξ5, a1, a2, a3, a4, a5⟩ := pAsks (k := 12) (a := 12) (w := 89) (by decide) rfl rfl h3
    rw [a1, a2, zBp_some, zBd_some]
    have cf5 := cf3.tr a3
    have mf5 := mf3.trF a4
    rcases a5 with ⟨rfl, s5, g5, h5⟩ | ⟨rfl, fl⟩
    · rw [if_neg one_n0]
      simp only [zLt]
      have dr5 : DR μ5 ξ5 := dr.fr cf5.1 mf5.1
      obtain ⟨x6, y6, μ7, ξ7, c1, c3, c4, c5, p7, c6⟩ := pKnown (p := 18) (q := 270) (t := 1) (a := 1) (by decide) rfl (by decide) h5 dr5.1.2.1
      rw [c1, c3, zBp_some, zBp_some]
      have cf7 := cf5.tr c4
      have mf7 := mf5.trF c5
      have dr7 : DR μ7 ξ7 := dr.fr cf7.1 mf7.1
      have e7 : ξ7 270 = ξ 270 := mf7.1 270 (by decide)
      rcases c6 with ⟨rfl, ⟨j, ej, jj⟩, s7, g7, h7⟩ | ⟨rfl, rfl, fl⟩
      · subst ej
        have j8 : j < 8 := by
          have := dr5.1.2.1.2.1
          omega
        rw [if_neg (nI_nm (by omega)), mFine1 h7.2.2.2.2.2.2, zBd_some, if_neg one_n0]
        have tk7 : TKl μ7 ξ7 ct' := by
          unfold TKl at *
          rw [e7, cf7.1 28 (by decide), cf7.1 29 (by decide), cf7.1 30 (by decide)]
          exact tk0
        obtain ⟨v, o1, o2, o3⟩ := pTr_l (z := nI j) hk hg (by rw [e7]; exact hct) (by rw [cf7.1 18 (by decide)]; exact l6) l2 tk7 100000 0 (0 : Int32) rfl (by omega) (by decide)
        unfold fX1_isTracked fX12_isTrack
        rw [o1, o2, zBd_some, zBd_some]
        rcases o3 with rfl | rfl
        · rw [if_pos rfl, if_pos rfl]
          obtain ⟨v, μ', ξ', w1, w2, w3⟩ := pTr138 (z := nI j) h7 dr7 hk hg (by rw [e7]; exact hct) hc (by rw [nI_toInt (by omega)]; omega)
          exact ⟨v, μ', ξ', w1, w2, w3.pre cf7 mf7⟩
        · rw [if_neg one_n0, if_neg one_n0]
          obtain ⟨ν, r1, r2, r3, r4⟩ := cRefuse (k := 5) (p := μ5 1 5) (μ := μ7)
          obtain ⟨ζ, z0, z1, z2, z3⟩ := mFail (k := 5) (p := ξ7 267 16) h7.2.2.2.2.2.2
          obtain ⟨m1, p, m2, m3⟩ := h7.mp
          have bz : ζ 267 6 ≠ 0 := by rw [z1]; decide
          have mz : MP b n ζ := ⟨m1.mf z3 (by omega), p, by rw [z3.2 4 (by omega)]; exact m2, m3⟩
          have f7 : MF pF ξ7 ζ := z3.tr (MF.rf (P := pF) _) (fun i w => by unfold pF; omega) (fun _ w => w)
          obtain ⟨χ, q0, q1, q2⟩ := bTr138 (y1 := nI ct') (y2 := nI k) (y3 := nI gq) (y4 := nI j) mz bz
          rw [r1, zBp_some, z0, zBd_some, q0]
          exact ⟨0, ν, χ, rfl, rfl, bothF (cf7.tr r4).xf (mf7.trF f7).yf ⟨r2.trans z1.symm, by rw [r3, z2]; exact i_eq h5.2.1.1 p7, bz, mz⟩ q1 q2⟩
      · rw [if_pos rfl, mFine0 fl.2.2.1, zBd_some, if_pos rfl]
        obtain ⟨χ, q0, q1, q2⟩ := bTr138 (y1 := nI ct') (y2 := nI k) (y3 := nI gq) (y4 := -1) fl.2.2.2 fl.2.2.1
        rw [q0]
        exact ⟨0, μ7, χ, rfl, rfl, bothF cf7.xf mf7.yf fl q1 q2⟩
    · rw [if_pos rfl]
      obtain ⟨ζ, z0, z1, z2⟩ := bOne (q := 270) (a := 1) fl.2.2.2 fl.2.2.1
      have bz : ζ 267 6 ≠ 0 := by rw [z1.bad]; exact fl.2.2.1
      obtain ⟨χ, q0, q1, q2⟩ := bTr138 (y1 := nI ct') (y2 := nI k) (y3 := nI gq) (y4 := -1) z2 bz
      rw [z0, zBp_some, mFine0 bz, zBd_some, if_pos rfl, q0]
      exact ⟨0, μ5, χ, rfl, rfl, bothF cf5.xf mf5.yf fl (z1.tr q1) q2⟩
  · rw [if_pos rfl]
    obtain ⟨χ, q0, q1, q2⟩ := bTr94 (y1 := nI ct') (y2 := y) (y3 := z) fl.2.2.2 fl.2.2.1
    rw [q0]
    exact ⟨0, μ3, χ, rfl, rfl, bothF cf3.xf mf3.yf fl q1 q2⟩
