/-! members -/
theorem orB63 : ∀ m : Nat, m < 64 → ∀ k : Nat, k < 6 → (0 ≤ (nI m ||| ((1 : Int32) <<< (nI k &&& 31))).toInt ∧ (nI m ||| ((1 : Int32) <<< (nI k &&& 31))).toInt ≤ 63) ∧ ∀ j : Nat, j < 6 → (((nI m ||| ((1 : Int32) <<< (nI k &&& 31))) >>> (nI j &&& 31)) &&& (1 : Int32)) = (1 : Int32) → j = k ∨ ((nI m >>> (nI j &&& 31)) &&& (1 : Int32)) = (1 : Int32) := by decide +kernel
theorem nI_nm {k : Nat} (h : k < 1000) : nI k ≠ (-1 : Int32) := fun q => by
  have t1 := congrArg Int32.toInt q
  rw [nI_toInt (by omega)] at t1
  have : (-1 : Int32).toInt = -1 := rfl
  omega
theorem one_n0 : ¬ (1 : Int32) = 0 := by decide
theorem bothF {b : Nat → Nat} {n : Nat} {μ ξ μ' ξ' ζ : gM} (x : XF μ μ') (y : YF ξ ξ') (f : FLT b n μ' ξ') (z : BF ξ' ζ) (m : MP b n ζ) : Both b n μ ξ 0 μ' ζ := ⟨x, y.tr z.yf, Or.inr ⟨rfl, f.bf z m⟩⟩
theorem bothG {b : Nat → Nat} {n : Nat} {μ ξ μ' ξ' : gM} (x : XF μ μ') (y : YF ξ ξ') (f : FLT b n μ' ξ') : Both b n μ ξ 0 μ' ξ' := ⟨x, y, Or.inr ⟨rfl, f⟩⟩
theorem bMem65 {b : Nat → Nat} {n : Nat} {y1 y3 : Int32} {ξ : gM} (m : MP b n ξ) (hb : ξ 267 6 ≠ 0) : ∃ ζ, fX12_memberRead_n65 y1 y3 ξ = some ζ ∧ BF ξ ζ ∧ MP b n ζ := by
  obtain ⟨ζ, z0, z1, z2⟩ := bNumber (a1 := 1) (a2 := 255) m hb
  have bz : ζ 267 6 ≠ 0 := by rw [z1.bad]; exact hb
  unfold fX12_memberRead_n65 fX12_memberRead_n101
  rw [bAsks hb, zBd_some, z0, zBp_some, bTakes bz, zBp_some, if_pos rfl, mFine0 bz, zBd_some, if_pos rfl]
  exact ⟨ζ, rfl, z1, z2⟩
theorem cMem {p q gq k : Nat} {μ ξ ξ' : gM} (n0 : NT p q 0 μ ξ) (n2 : NT p q 2 μ ξ) (hmb : μ (p + 7) gq = ξ q (48 + gq)) (hk : (k : Int) < (ξ q 0).toInt) (hg : (gq : Int) < (ξ q 2).toInt) (h5 : gq < 5) : fX1_isMember p (nI gq) (nI k) μ = fX12_isOf (ξ q (48 + gq)) (nI k) ξ' := by
  have k8 := n0.2.1.2
  have tk : (nI k).toInt = k := nI_toInt (by omega)
  have tg : (nI gq).toInt = gq := nI_toInt (by omega)
  have z0 : (0 : Int32).toInt = 0 := rfl
  have e0 := n0.1
  have e2 := n2.1
  unfold fX1_isMember fX1_isGroup
  rw [if_neg (fun w => by have := Int32.lt_iff_toInt_lt.mp w; omega), e2, if_neg (fun w => by have := Int32.le_iff_toInt_le.mp w; omega), zBd_some, if_neg one_n0, if_neg (fun w => by have := Int32.lt_iff_toInt_lt.mp w; omega), e0, if_neg (fun w => by have := Int32.le_iff_toInt_le.mp w; omega)]
  unfold zCk
  rw [if_pos (zIn tg (by omega) (by omega)), cl_of tg, hmb]
  rfl
theorem pMemEnd {b : Nat → Nat} {n s gq k : Nat} {g : Int} {μ ξ : gM} {y4 z0 : Int32} (h : SIM b n s g μ ξ) (dr : DR μ ξ) (hk : k < 6) (hg : gq < 5) (hz : z0 ≠ -1) (wb : WBd y4 z0) (hk0 : (k : Int) < (ξ 270 0).toInt) (hg2 : (gq : Int) < (ξ 270 2).toInt) : ∃ μ' ξ', fX2_readMember_n145 (nI k) (nI gq) y4 z0 μ = some (1, μ') ∧ fX12_memberRead_n101 (nI k) (nI gq) y4 z0 ξ = some ξ' ∧ Both b n μ ξ 1 μ' ξ' := by
  have t2 : (nI k).toInt = k := nI_toInt (by omega)
  have t3 : (nI gq).toInt = gq := nI_toInt (by omega)
  have g5 : gIn (nI gq) 5 = true := zIn t3 (by omega) (by omega)
  have i6 : (nI gq * (6 : Int32) + nI k).toInt = ((6 * gq + k : Nat) : Int) := (iA (iM t3 (iL (6) (6) rfl) (by omega) (by omega)) t2 (by omega) (by omega)).trans (by omega)
  have j6 : ((6 : Int32) * nI gq + nI k).toInt = ((6 * gq + k : Nat) : Int) := (iA (iM (iL (6) (6) rfl) t3 (by omega) (by omega)) t2 (by omega) (by omega)).trans (by omega)
  have i48 : ((48 : Int32) + nI gq).toInt = ((48 + gq : Nat) : Int) := (iA (iL (48) (48) rfl) t3 (by omega) (by omega)).trans (by omega)
  have i53 : ((53 : Int32) + ((6 : Int32) * nI gq + nI k)).toInt = ((53 + (6 * gq + k) : Nat) : Int) := (iA (iL (53) (53) rfl) j6 (by omega) (by omega)).trans (by omega)
  have i83 : ((83 : Int32) + ((6 : Int32) * nI gq + nI k)).toInt = ((83 + (6 * gq + k) : Nat) : Int) := (iA (iL (83) (83) rfl) j6 (by omega) (by omega)).trans (by omega)
  obtain ⟨⟨n0, n1, n2⟩, mb, mw, cg, ct, l1, l2, l3, l4, l5, l6, gr, tk⟩ := dr
  obtain ⟨b1, b2, b3⟩ := mb gq hg
  obtain ⟨m, hm, em⟩ : ∃ m, m < 64 ∧ ξ 270 (48 + gq) = nI m := ⟨(ξ 270 (48 + gq)).toInt.toNat, by omega, nI_of' (by omega)⟩
  obtain ⟨o1, o2⟩ := orB63 m hm k hk
  generalize ew : nI m ||| ((1 : Int32) <<< (nI k &&& 31)) = w at o1 o2
  generalize eA : gUp (gUp (gUp μ 25 gq w) 26 (6 * gq + k) y4) 27 (6 * gq + k) z0 = μA
  have fA : fX2_readMember_n145 (nI k) (nI gq) y4 z0 μ = some (1, μA) := by
    unfold fX2_readMember_n145
    simp only [zCk, zLt]
    rw [if_pos g5, if_pos g5, if_pos (zIn i6 (by omega) (by omega)), if_pos (zIn i6 (by omega) (by omega)), cl_of t3, cl_of i6, if_neg hz, b1, em, ew, eA]
  generalize eB : gUp (gUp (gUp ξ 270 (48 + gq) w) 270 (53 + (6 * gq + k)) y4) 270 (83 + (6 * gq + k)) z0 = ξB
  have fB : fX12_memberRead_n101 (nI k) (nI gq) y4 z0 ξ = some ξB := by
    unfold fX12_memberRead_n101 fX12_of
    rw [mFine1 h.2.2.2.2.2.2, zBd_some, if_neg one_n0]
    simp only [zCk, zLt, zBd_some]
    rw [if_pos (zIn i48 (by omega) (by omega)), if_pos (zIn i48 (by omega) (by omega)), if_pos (zIn i53 (by omega) (by omega)), if_pos (zIn i83 (by omega) (by omega)), cl_of i48, cl_of i53, cl_of i83, em, ew, eB]
  have wA : ∀ a, a ≠ 25 → a ≠ 26 → a ≠ 27 → μA a = μ a := fun a h1 h2 h3 => by rw [← eA, zUp_ne _ h3, zUp_ne _ h2, zUp_ne _ h1]
  have a25 : ∀ j, μA 25 j = if j = gq then w else μ 25 j := fun j => by rw [← eA, zUp_ne _ (by decide), zUp_ne _ (by decide), zUp_at, if_pos rfl]
  have a26 : ∀ j, μA 26 j = if j = 6 * gq + k then y4 else μ 26 j := fun j => by rw [← eA, zUp_ne _ (by decide), zUp_at, if_pos rfl, zUp_ne _ (by decide)]
  have a27 : ∀ j, μA 27 j = if j = 6 * gq + k then z0 else μ 27 j := fun j => by rw [← eA, zUp_at, if_pos rfl, zUp_ne _ (by decide), zUp_ne _ (by decide)]
  have wC : ∀ a, a ≠ 270 → ξB a = ξ a := fun a ha => by rw [← eB, zUp_ne _ ha, zUp_ne _ ha, zUp_ne _ ha]
  have ok : ∀ j, j ≠ 48 + gq → j ≠ 53 + (6 * gq + k) → j ≠ 83 + (6 * gq + k) → ξB 270 j = ξ 270 j := fun j h0 h1 h2 => by rw [← eB, zUp_slot _ h2, zUp_slot _ h1, zUp_slot _ h0]
  have o48 : ξB 270 (48 + gq) = w := by rw [← eB, zUp_slot _ (by omega), zUp_slot _ (by omega), zUp_same]
  have o53 : ξB 270 (53 + (6 * gq + k)) = y4 := by rw [← eB, zUp_slot _ (by omega), zUp_same]
  have o83 : ξB 270 (83 + (6 * gq + k)) = z0 := by rw [← eB, zUp_same]
  refine ⟨μA, ξB, fA, fB, ⟨fun a h1 h2 => wA a (by omega) (by omega) (by omega), by rw [wA 1 (by decide) (by decide) (by decide)]⟩, ⟨fun a h1 h2 => wC a h2, fun i hi => by rw [wC 267 (by decide)]⟩, Or.inl ⟨rfl, ⟨s, g, h.fr (wA 1 (by decide) (by decide) (by decide)) (wA 2 (by decide) (by decide) (by decide)) (wA 3 (by decide) (by decide) (by decide)) (wC 267 (by decide)) (wC 268 (by decide))⟩, ?_⟩⟩
  have ntk : ∀ t, t < 3 → NT 18 270 t μ ξ → NT 18 270 t μA ξB := fun t ht nt => by
    obtain ⟨u1, u2, u3⟩ := nt
    have et : ξB 270 t = ξ 270 t := ok t (by omega) (by omega) (by omega)
    refine ⟨?_, by rw [et]; exact u2, fun j hj => ?_⟩
    · show μA 19 t = ξB 270 t
      rw [wA 19 (by decide) (by decide) (by decide), et]; exact u1
    · rw [et] at hj
      show NM (μA 20 (t * 8 + j)) (ξB 270 (4 + 8 * t + j))
      rw [wA 20 (by decide) (by decide) (by decide), ok _ (by omega) (by omega) (by omega)]
      exact u3 j hj
  refine ⟨⟨ntk 0 (by decide) n0, ntk 1 (by decide) n1, ntk 2 (by decide) n2⟩, fun g' hg' => ?_, fun g' j hg' hj hb => ?_, cg, ct, l1, l2, ?_, ?_, ?_, ?_, fun g' hg' => ?_, fun t ht => ?_⟩
  · rw [a25]
    by_cases e : g' = gq
    · subst e
      rw [if_pos rfl, o48]
      exact ⟨rfl, o1⟩
    · rw [if_neg e, ok (48 + g') (by omega) (by omega) (by omega)]
      exact mb g' hg'
  · rw [a26, a27]
    by_cases e : 6 * g' + j = 6 * gq + k
    · have ej : j = k := by omega
      have eg : g' = gq := by omega
      rw [if_pos e, if_pos e, e, o53, o83, ok 0 (by omega) (by omega) (by omega), ok 2 (by omega) (by omega) (by omega), ej, eg]
      exact ⟨rfl, rfl, wb, hk0, hg2⟩
    · rw [if_neg e, if_neg e, ok (53 + (6 * g' + j)) (by omega) (by omega) (by omega), ok (83 + (6 * g' + j)) (by omega) (by omega) (by omega), ok 0 (by omega) (by omega) (by omega), ok 2 (by omega) (by omega) (by omega)]
      refine mw g' j hg' hj ?_
      by_cases eg : g' = gq
      · subst eg
        rw [o48] at hb
        rcases o2 j hj hb with c | c
        · omega
        · rw [em]; exact c
      · rw [ok (48 + g') (by omega) (by omega) (by omega)] at hb
        exact hb
  · rw [ok 0 (by omega) (by omega) (by omega)]; exact l3
  · rw [ok 2 (by omega) (by omega) (by omega)]; exact l4
  · rw [ok 3 (by omega) (by omega) (by omega)]; exact l5
  · rw [wA 18 (by decide) (by decide) (by decide)]; exact l6
  · rw [wA 21 (by decide) (by decide) (by decide), wA 22 (by decide) (by decide) (by decide), wA 23 (by decide) (by decide) (by decide), wA 24 (by decide) (by decide) (by decide), ok (28 + g') (by omega) (by omega) (by omega), ok (33 + g') (by omega) (by omega) (by omega), ok (38 + g') (by omega) (by omega) (by omega), ok (43 + g') (by omega) (by omega) (by omega)]
    exact gr g' hg'
  · obtain ⟨g', j, u1, u2, u3, u4, u5, u6, u7⟩ := tk t ht
    refine ⟨g', j, u1, u2, ?_, ?_, ?_, ?_, ?_⟩
    · rw [ok _ (by omega) (by omega) (by omega)]; exact u3
    · rw [ok _ (by omega) (by omega) (by omega)]; exact u4
    · rw [wA 28 (by decide) (by decide) (by decide)]; exact u5
    · rw [wA 29 (by decide) (by decide) (by decide), ok _ (by omega) (by omega) (by omega)]; exact u6
    · rw [wA 30 (by decide) (by decide) (by decide), ok _ (by omega) (by omega) (by omega), ok _ (by omega) (by omega) (by omega)]; exact u7
theorem Both.pre {b : Nat → Nat} {n : Nat} {μ ξ μ1 ξ1 μ2 ξ2 : gM} {v : Int32} (x : CF μ μ1) (y : MF pF ξ ξ1) (h : Both b n μ1 ξ1 v μ2 ξ2) : Both b n μ ξ v μ2 ξ2 := ⟨x.xf.tr h.1, y.yf.tr h.2.1, h.2.2⟩
/-- what the reference does behind the keyword -/
def mMRest (ξ : gM) : Option gM := zBp (fX12_oneRead 270 (0 : Int32) ξ) (fun x2 μ3 => zLt (μ3 267 16) (fun x4 => zBd (fX12_asks (486 : Int32) μ3) (fun μ5 => zBp (fX12_oneRead 270 (2 : Int32) μ5) (fun x6 μ7 => zBd (fX12_isFine μ7) (fun x8 => (if x8 = 0 then (fX12_memberRead_n65 x2 x6 μ7) else zCk (gIn ((48 : Int32) + x6) 209) (zBd (fX12_isOf (μ7 270 (((48 : Int32) + x6)).toNatClampNeg) x2 μ7) (fun x30 => (if x30 = 0 then (fX12_memberRead_n65 x2 x6 μ7) else zBd (fX12_fail (5 : Int32) x4 μ7) (fun μ31 => (fX12_memberRead_n65 x2 x6 μ31)))))))))))
theorem pMem109 {b : Nat → Nat} {n s gq k : Nat} {g : Int} {μ ξ : gM} (h : SIM b n s g μ ξ) (dr : DR μ ξ) (hk : k < 6) (hg : gq < 5) (hk0 : (k : Int) < (ξ 270 0).toInt) (hg2 : (gq : Int) < (ξ 270 2).toInt) : ∃ v μ' ξ', zBp (fX7_pass (9 : Int32) μ) (fun x9 μ10 => (if x9 = 0 then (fX2_readMember_n109 (nI k) (nI gq) (-1 : Int32) μ10) else zBp (fX7_number (1 : Int32) (255 : Int32) μ10) (fun x25 μ26 => (fX2_readMember_n109 (nI k) (nI gq) x25 μ26)))) = some (v, μ') ∧ fX12_memberRead_n65 (nI k) (nI gq) ξ = some ξ' ∧ Both b n μ ξ v μ' ξ' := by
  unfold fX12_memberRead_n65
  obtain ⟨v2, μ3, ξ3, a1, a2, a3, a4, a5⟩ := pAsks (k := 9) (a := 9) (w := 769604) (by decide) rfl rfl h
  rw [a1, a2, zBp_some, zBd_some]
  rcases a5 with ⟨rfl, s3, g3, h3⟩ | ⟨rfl, fl⟩
  · rw [if_neg one_n0]
    obtain ⟨x, y, μ5, ξ5, b1, b2, b3, b4, b5⟩ := pNumber (lo := 1) (hi := 255) (by decide) h3
    rw [b1, b2, zBp_some, zBp_some]
    have cf5 := a3.tr b3
    have mf5 := a4.trF b4
    unfold fX2_readMember_n109
    rcases b5 with ⟨rfl, r1, r2, s5, g5, h5⟩ | ⟨rfl, fl⟩
    · have xn : x ≠ -1 := fun q => by
        rw [q] at r1
        have t1 : (-1 : Int32).toInt = -1 := rfl
        have t2 : (1 : Int32).toInt = 1 := rfl
        omega
      rw [if_neg xn]
      obtain ⟨v6, μ7, ξ7, c1, c2, hv, l1, l2, s7, g7, h7⟩ := pTakes (k := 10) (a := 10) (w := 20186693) (by decide) rfl rfl h5
      rw [c1, c2, zBp_some, zBp_some]
      have cf7 := cf5.tr' l1
      have mf7 := mf5.trF l2
      rcases hv with rfl | rfl
      · rw [if_pos rfl, if_pos rfl]
        obtain ⟨μ', ξ', w1, w2, w3⟩ := pMemEnd (y4 := x) (z0 := 1) h7 (dr.fr cf7.1 mf7.1) hk hg (by decide) ⟨⟨r1, r2⟩, by decide, by decide⟩ (by rw [mf7.1 270 (by decide)]; exact hk0) (by rw [mf7.1 270 (by decide)]; exact hg2)
        exact ⟨1, μ', ξ', w1, w2, w3.pre cf7 mf7⟩
      · rw [if_neg one_n0, if_neg one_n0]
        obtain ⟨x9, y9, μ9, ξ9, d1, d2, d3, d4, d5⟩ := pNumber (lo := 0) (hi := 99) (by decide) h7
        rw [d1, d2, zBp_some, zBp_some]
        have cf9 := cf7.tr d3
        have mf9 := mf7.trF d4
        rcases d5 with ⟨rfl, r3, r4, s9, g9, h9⟩ | ⟨rfl, fl⟩
        · have yn : x9 ≠ -1 := fun q => by
            rw [q] at r3
            have t1 : (-1 : Int32).toInt = -1 := rfl
            have t2 : (0 : Int32).toInt = 0 := rfl
            omega
          obtain ⟨μ', ξ', w1, w2, w3⟩ := pMemEnd (y4 := x) (z0 := x9) h9 (dr.fr cf9.1 mf9.1) hk hg yn ⟨⟨r1, r2⟩, r3, r4⟩ (by rw [mf9.1 270 (by decide)]; exact hk0) (by rw [mf9.1 270 (by decide)]; exact hg2)
          exact ⟨1, μ', ξ', w1, w2, w3.pre cf9 mf9⟩
        · have t2 : (nI k).toInt = k := nI_toInt (by omega)
          have t3 : (nI gq).toInt = gq := nI_toInt (by omega)
          have q5 : gIn (nI gq) 5 = true := zIn t3 (by omega) (by omega)
          have i6 : (nI gq * (6 : Int32) + nI k).toInt = ((6 * gq + k : Nat) : Int) := (iA (iM t3 (iL (6) (6) rfl) (by omega) (by omega)) t2 (by omega) (by omega)).trans (by omega)
          unfold fX2_readMember_n145 fX12_memberRead_n101
          rw [mFine0 fl.2.2.1, zBd_some, if_pos rfl]
          simp only [zCk, zLt]
          rw [if_pos q5, if_pos q5, if_pos (zIn i6 (by omega) (by omega)), if_pos (zIn i6 (by omega) (by omega)), if_pos trivial]
          refine ⟨0, _, ξ9, rfl, rfl, cf9.xf.tr ⟨fun a h1 h2 => ?_, ?_⟩, mf9.yf, Or.inr ⟨rfl, ?_⟩⟩
          · rw [zUp_ne _ (by omega), zUp_ne _ (by omega), zUp_ne _ (by omega)]
          · rw [zUp_ne _ (by decide), zUp_ne _ (by decide), zUp_ne _ (by decide)]
          · unfold FLT at *
            rw [zUp_ne _ (show (1 : Nat) ≠ 27 by decide), zUp_ne _ (show (1 : Nat) ≠ 26 by decide), zUp_ne _ (show (1 : Nat) ≠ 25 by decide)]
            exact fl
    · have bb := fl.2.2.1
      unfold fX12_memberRead_n101
      rw [if_pos rfl, bTakes bb, zBp_some, if_pos rfl, mFine0 bb, zBd_some, if_pos rfl]
      exact ⟨0, μ5, ξ5, rfl, rfl, bothG cf5.xf mf5.yf fl⟩
  · have bb := fl.2.2.1
    obtain ⟨ζ, z0, z1, z2⟩ := bNumber (a1 := 1) (a2 := 255) fl.2.2.2 bb
    have bz : ζ 267 6 ≠ 0 := by rw [z1.bad]; exact bb
    unfold fX2_readMember_n109 fX12_memberRead_n101
    rw [if_pos rfl, if_pos rfl, z0, zBp_some, bTakes bz, zBp_some, if_pos rfl, mFine0 bz, zBd_some, if_pos rfl]
    exact ⟨0, μ3, ζ, rfl, rfl, bothF a3.xf a4.yf fl z1 z2⟩
theorem pMember {b : Nat → Nat} {n s : Nat} {g : Int} {μ ξ : gM} (h : SIM b n s g μ ξ) (dr : DR μ ξ) : ∃ v μ' ξ', fX2_readMember μ = some (v, μ') ∧ mMRest ξ = some ξ' ∧ Both b n μ ξ v μ' ξ' := by
  obtain ⟨cg, ct, l1, l2, l3, l4, -⟩ := id dr.2.2.2
  obtain ⟨x, y, μ3, ξ3, u1, u2, cf3, mf3, p3, u3⟩ := pKnown (p := 18) (q := 270) (t := 0) (a := 0) (by decide) rfl (by decide) h dr.1.1
  unfold fX2_readMember mMRest
  simp only [zLt]
  rw [u1, u2, zBp_some, zBp_some]
  rcases u3 with ⟨rfl, ⟨k, ek, kk⟩, s3, g3, h3⟩ | ⟨rfl, rfl, fl⟩
  · subst ek
    rw [if_neg (nI_nm (by omega))]
    obtain ⟨v2, μ5, ξ5, a1, a2, a3, a4, a5⟩ := pAsks (k := 8) (a := 8) (w := 486) (by decide) rfl rfl h3
    rw [a1, a2, zBp_some, zBd_some]
    have cf5 := cf3.tr a3
    have mf5 := mf3.trF a4
    rcases a5 with ⟨rfl, s5, g5, h5⟩ | ⟨rfl, fl⟩
    · rw [if_neg one_n0]
      have dr5 : DR μ5 ξ5 := dr.fr cf5.1 mf5.1
      obtain ⟨x6, y6, μ7, ξ7, c1, c2, c3, c4, p7, c5⟩ := pKnown (p := 18) (q := 270) (t := 2) (a := 2) (by decide) rfl (by decide) h5 dr5.1.2.2
      rw [c1, c2, zBp_some, zBp_some]
      have cf7 := cf5.tr c3
      have mf7 := mf5.trF c4
      have dr7 : DR μ7 ξ7 := dr.fr cf7.1 mf7.1
      rcases c5 with ⟨rfl, ⟨gq, eg, gg⟩, s7, g7, h7⟩ | ⟨rfl, rfl, fl⟩
      · subst eg
        have e5 : ξ5 270 = ξ 270 := mf5.1 270 (by decide)
        have e7 : ξ7 270 = ξ 270 := mf7.1 270 (by decide)
        have tcg : (nI cg).toInt = cg := nI_toInt (by omega)
        rw [e5] at gg
        have gc : gq < cg := by rw [l4, tcg] at gg; omega
        have t3 : (nI gq).toInt = gq := nI_toInt (by omega)
        have i48 : ((48 : Int32) + nI gq).toInt = ((48 + gq : Nat) : Int) := (iA (iL (48) (48) rfl) t3 (by omega) (by omega)).trans (by omega)
        rw [if_neg (nI_nm (by omega)), mFine1 h7.2.2.2.2.2.2, zBd_some, if_neg one_n0]
        unfold zCk
        rw [if_pos (zIn i48 (by omega) (by omega)), cl_of i48, cMem (p := 18) (q := 270) (ξ' := ξ7) dr7.1.1 dr7.1.2.2 (dr7.2.1 gq (by omega)).1 (by rw [e7]; exact kk) (by rw [e7]; exact gg) (by omega)]
        unfold fX12_isOf
        by_cases cb : ((ξ7 270 (48 + gq) >>> (nI k &&& 31)) &&& (1 : Int32)) = (1 : Int32)
        · rw [if_pos cb, zBd_some, zBd_some, if_neg one_n0, if_neg one_n0]
          obtain ⟨ν, r1, r2, r3, r4⟩ := cRefuse (k := 5) (p := μ 1 5) (μ := μ7)
          obtain ⟨ζ, z0, z1, z2, z3⟩ := mFail (k := 5) (p := ξ3 267 16) h7.2.2.2.2.2.2
          obtain ⟨m1, p, m2, m3⟩ := h7.mp
          have bz : ζ 267 6 ≠ 0 := by rw [z1]; decide
          have mz : MP b n ζ := ⟨m1.mf z3 (by omega), p, by rw [z3.2 4 (by omega)]; exact m2, m3⟩
          obtain ⟨χ, q0, q1, q2⟩ := bMem65 (y1 := nI k) (y3 := nI gq) mz bz
          rw [r1, zBp_some, z0, zBd_some, q0]
          have f7 : MF pF ξ7 ζ := z3.tr (MF.rf (P := pF) _) (fun i w => by unfold pF; omega) (fun _ w => w)
          exact ⟨0, ν, χ, rfl, rfl, bothF (cf7.tr r4).xf (mf7.trF f7).yf ⟨r2.trans z1.symm, by rw [r3, z2]; exact i_eq h.2.1.1 p3, bz, mz⟩ q1 q2⟩
        · rw [if_neg cb, zBd_some, zBd_some, if_pos rfl, if_pos rfl]
          obtain ⟨v, μ', ξ', w1, w2, w3⟩ := pMem109 (k := k) (gq := gq) h7 dr7 (by omega) (by omega) (by rw [e7]; exact kk) (by rw [e7]; exact gg)
          exact ⟨v, μ', ξ', w1, w2, w3.pre cf7 mf7⟩
      · rw [if_pos rfl, mFine0 fl.2.2.1, zBd_some, if_pos rfl]
        obtain ⟨χ, q0, q1, q2⟩ := bMem65 (y1 := nI k) (y3 := -1) fl.2.2.2 fl.2.2.1
        rw [q0]
        exact ⟨0, μ7, χ, rfl, rfl, bothF cf7.xf mf7.yf fl q1 q2⟩
    · rw [if_pos rfl]
      obtain ⟨ζ, z0, z1, z2⟩ := bOne (q := 270) (a := 2) fl.2.2.2 fl.2.2.1
      have bz : ζ 267 6 ≠ 0 := by rw [z1.bad]; exact fl.2.2.1
      obtain ⟨χ, q0, q1, q2⟩ := bMem65 (y1 := nI k) (y3 := -1) z2 bz
      rw [z0, zBp_some, mFine0 bz, zBd_some, if_pos rfl, q0]
      exact ⟨0, μ5, χ, rfl, rfl, bothF cf5.xf mf5.yf fl (z1.tr q1) q2⟩
  · rw [if_pos rfl, bAsks fl.2.2.1, zBd_some]
    obtain ⟨ζ, z0, z1, z2⟩ := bOne (q := 270) (a := 2) fl.2.2.2 fl.2.2.1
    have bz : ζ 267 6 ≠ 0 := by rw [z1.bad]; exact fl.2.2.1
    obtain ⟨χ, q0, q1, q2⟩ := bMem65 (y1 := -1) (y3 := -1) z2 bz
    rw [z0, zBp_some, mFine0 bz, zBd_some, if_pos rfl, q0]
    exact ⟨0, μ3, χ, rfl, rfl, bothF cf3.xf mf3.yf fl (z1.tr q1) q2⟩
