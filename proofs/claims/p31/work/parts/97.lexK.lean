/-! groups -/
def XF (μ ν : gM) : Prop := (∀ a, a ≠ 1 → a < 18 ∨ 30 < a → ν a = μ a) ∧ ν 1 2 = μ 1 2
def YF (ξ ζ : gM) : Prop := (∀ a, a ≠ 267 → a ≠ 270 → ζ a = ξ a) ∧ ∀ i, ¬ pF i → ζ 267 i = ξ 267 i
theorem XF.tr {a b c : gM} (h : XF a b) (g : XF b c) : XF a c := ⟨fun i h1 h2 => (g.1 i h1 h2).trans (h.1 i h1 h2), g.2.trans h.2⟩
theorem YF.tr {a b c : gM} (h : YF a b) (g : YF b c) : YF a c := ⟨fun i h1 h2 => (g.1 i h1 h2).trans (h.1 i h1 h2), fun i hi => (g.2 i hi).trans (h.2 i hi)⟩
theorem CF.xf {a b : gM} (h : CF a b) : XF a b := ⟨fun i h1 _ => h.1 i h1, h.2⟩
theorem MF.yf {a b : gM} (h : MF pF a b) : YF a b := ⟨fun i h1 _ => h.1 i h1, h.2⟩
theorem BF.yf {a b : gM} (h : BF a b) : YF a b := ⟨fun i h1 _ => h.1 i h1, fun i hi => h.2 i (fun w => hi (by unfold pF; omega))⟩
theorem NewQ.xf {b : Nat → Nat} {n t c : Nat} {μ ξ μ' ξ' : gM} (h : NewQ b n t c μ ξ μ' ξ') (e : μ' 1 2 = μ 1 2) : XF μ μ' := ⟨fun i h1 h2 => h.2.2.2.2.2.1 i h1 (by omega) (by omega), e⟩
theorem NewQ.yf {b : Nat → Nat} {n t c : Nat} {μ ξ μ' ξ' : gM} (h : NewQ b n t c μ ξ μ' ξ') : YF ξ ξ' := ⟨h.2.2.2.2.2.2.2.1, h.2.2.2.2.2.2.2.2⟩
theorem SIM.fr {b : Nat → Nat} {n s : Nat} {g : Int} {μ ξ μ' ξ' : gM} (h : SIM b n s g μ ξ) (c1 : μ' 1 = μ 1) (c2 : μ' 2 = μ 2) (c3 : μ' 3 = μ 3) (m7 : ξ' 267 = ξ 267) (m8 : ξ' 268 = ξ 268) : SIM b n s g μ' ξ' := by
  unfold SIM CT CS OWN MT at *
  rw [c1, c2, c3, m7, m8]
  exact h
theorem pGroupEnd {b : Nat → Nat} {n s cg : Nat} {g : Int} {μ ξ μ1 ξ1 μ2 ξ2 : gM} {y1 y2 y3 y4 z0 kp : Int32} (h : SIM b n s g μ2 ξ2) (dr : DR μ ξ) (nq : NewQ b n 2 cg μ ξ μ1 ξ1) (e1 : μ1 1 2 = μ 1 2) (cf : CF μ1 μ2) (mf : MF pF ξ1 ξ2) (hcg : ξ 270 2 = nI cg) (c4 : cg ≤ 4) (hy : y1 = nI cg) (hk : y4 = if kp = 0 then 0 else 1) (hz : z0 ≠ -1) (gb : GBd y2 y3 y4 z0) : ∃ μ' ξ', fX2_readGroup_n134 y1 y2 y3 y4 z0 μ2 = some (1, μ') ∧ fX12_groupRead_n73 y1 y2 kp y3 z0 ξ2 = some ξ' ∧ XF μ μ' ∧ YF ξ ξ' ∧ (∃ s' g', SIM b n s' g' μ' ξ') ∧ DR μ' ξ' := by
  have t1 : y1.toInt = cg := by rw [hy]; exact nI_toInt (by omega)
  have g5 : gIn y1 5 = true := zIn t1 (by omega) (by omega)
  have i28 : ((28 : Int32) + y1).toInt = ((28 + cg : Nat) : Int) := (iA (iL (28) (28) rfl) t1 (by omega) (by omega)).trans (by omega)
  have i33 : ((33 : Int32) + y1).toInt = ((33 + cg : Nat) : Int) := (iA (iL (33) (33) rfl) t1 (by omega) (by omega)).trans (by omega)
  have i38 : ((38 : Int32) + y1).toInt = ((38 + cg : Nat) : Int) := (iA (iL (38) (38) rfl) t1 (by omega) (by omega)).trans (by omega)
  have i43 : ((43 : Int32) + y1).toInt = ((43 + cg : Nat) : Int) := (iA (iL (43) (43) rfl) t1 (by omega) (by omega)).trans (by omega)
  have hfl : fX12_flag kp = fun _ => some y4 := by
    funext χ
    unfold fX12_flag
    rw [hk]
    split <;> rfl
  obtain ⟨-, q1, q2, q3, q4, q5, q6, q7, q8⟩ := nq
  -- the class
  generalize eA : gUp (gUp (gUp (gUp μ2 21 cg y2) 22 cg y3) 23 cg y4) 24 cg z0 = μA
  have fA : fX2_readGroup_n134 y1 y2 y3 y4 z0 μ2 = some (1, μA) := by
    unfold fX2_readGroup_n134
    simp only [zCk, zLt]
    rw [if_pos g5, if_pos g5, if_pos g5, if_pos g5, cl_of t1, if_neg hz, ← eA]
  have wA : ∀ a, a ≠ 21 → a ≠ 22 → a ≠ 23 → a ≠ 24 → μA a = μ2 a := fun a h1 h2 h3 h4 => by rw [← eA, zUp_ne _ h4, zUp_ne _ h3, zUp_ne _ h2, zUp_ne _ h1]
  have a21 : μA 21 = gUp μ2 21 cg y2 21 := by rw [← eA, zUp_ne _ (by decide), zUp_ne _ (by decide), zUp_ne _ (by decide)]
  have a22 : ∀ j, μA 22 j = if j = cg then y3 else μ2 22 j := fun j => by rw [← eA, zUp_ne _ (by decide), zUp_ne _ (by decide), zUp_at, if_pos rfl, zUp_ne _ (by decide)]
  have a23 : ∀ j, μA 23 j = if j = cg then y4 else μ2 23 j := fun j => by rw [← eA, zUp_ne _ (by decide), zUp_at, if_pos rfl, zUp_ne _ (by decide), zUp_ne _ (by decide)]
  have a24 : ∀ j, μA 24 j = if j = cg then z0 else μ2 24 j := fun j => by rw [← eA, zUp_at, if_pos rfl, zUp_ne _ (by decide), zUp_ne _ (by decide), zUp_ne _ (by decide)]
  -- the reference
  generalize eB : gUp (gUp (gUp (gUp ξ2 270 (28 + cg) y2) 270 (33 + cg) y3) 270 (38 + cg) y4) 270 (43 + cg) z0 = ξB
  have b2 : ξB 270 2 = nI cg := by
    rw [← eB, zUp_slot _ (by omega), zUp_slot _ (by omega), zUp_slot _ (by omega), zUp_slot _ (by omega), mf.1 270 (by decide), q6 2 (by omega), hcg]
  generalize eC' : gUp ξB 270 2 (ξB 270 2 + 1) = ξC
  have fB : fX12_groupRead_n73 y1 y2 kp y3 z0 ξ2 = some ξC := by
    unfold fX12_groupRead_n73
    rw [mFine1 h.2.2.2.2.2.2, zBd_some, if_neg (show ¬ (1 : Int32) = 0 by decide), hfl]
    simp only [zCk, zLt, zBd_some]
    rw [if_pos (zIn i28 (by omega) (by omega)), if_pos (zIn i33 (by omega) (by omega)), if_pos (zIn i38 (by omega) (by omega)), if_pos (zIn i43 (by omega) (by omega)), cl_of i28, cl_of i33, cl_of i38, cl_of i43, eB, eC']
  have wC : ∀ a, a ≠ 270 → ξC a = ξ2 a := fun a ha => by rw [← eC', zUp_ne _ ha, ← eB, zUp_ne _ ha, zUp_ne _ ha, zUp_ne _ ha, zUp_ne _ ha]
  have c2 : ξC 270 2 = nI (cg + 1) := by
    rw [← eC', zUp_same, b2]
    exact nI_1 cg
  have oj : ∀ j, j ≠ 2 → j ≠ 28 + cg → j ≠ 33 + cg → j ≠ 38 + cg → j ≠ 43 + cg → ξC 270 j = ξ1 270 j := fun j h0 h1 h2 h3 h4 => by
    rw [← eC', zUp_slot _ h0, ← eB, zUp_slot _ h4, zUp_slot _ h3, zUp_slot _ h2, zUp_slot _ h1, mf.1 270 (by decide)]
  have o28 : ξC 270 (28 + cg) = y2 := by rw [← eC', zUp_slot _ (by omega), ← eB, zUp_slot _ (by omega), zUp_slot _ (by omega), zUp_slot _ (by omega), zUp_same]
  have o33 : ξC 270 (33 + cg) = y3 := by rw [← eC', zUp_slot _ (by omega), ← eB, zUp_slot _ (by omega), zUp_slot _ (by omega), zUp_same]
  have o38 : ξC 270 (38 + cg) = y4 := by rw [← eC', zUp_slot _ (by omega), ← eB, zUp_slot _ (by omega), zUp_same]
  have o43 : ξC 270 (43 + cg) = z0 := by rw [← eC', zUp_slot _ (by omega), ← eB, zUp_same]
  have ok : ∀ j, j ≠ 2 → j ≠ 28 + cg → j ≠ 33 + cg → j ≠ 38 + cg → j ≠ 43 + cg → j ≠ 20 + cg → ξC 270 j = ξ 270 j := fun j h0 h1 h2 h3 h4 h5 => by rw [oj j h0 h1 h2 h3 h4, q6 j (by omega)]
  refine ⟨μA, ξC, fA, fB, ⟨fun a h1 h2 => ?_, ?_⟩, ⟨fun a h1 h2 => ?_, fun i hi => ?_⟩, ⟨s, g, h.fr (wA 1 (by decide) (by decide) (by decide) (by decide)) (wA 2 (by decide) (by decide) (by decide) (by decide)) (wA 3 (by decide) (by decide) (by decide) (by decide)) (wC 267 (by decide)) (wC 268 (by decide))⟩, ?_⟩
  · rw [wA a (by omega) (by omega) (by omega) (by omega), cf.1 a h1, q5 a h1 (by omega) (by omega)]
  · rw [wA 1 (by decide) (by decide) (by decide) (by decide), cf.2, e1]
  · rw [wC a h2, mf.1 a h1, q7 a h1 h2]
  · rw [wC 267 (by decide), mf.2 i hi, q8 i hi]
  obtain ⟨⟨n0, n1, n2⟩, mb, mw, cg', ct, l1, l2, l3, l4, l5, l6, gr, tk⟩ := dr
  have ecg : cg' = cg := nI_inj (by omega) (by omega) (l4.symm.trans hcg)
  subst ecg
  have s19 : ∀ j, j ≠ 2 → μA 19 j = μ 19 j := fun j hj => by rw [wA 19 (by decide) (by decide) (by decide) (by decide), cf.1 19 (by decide), q3 j hj]
  have s20 : ∀ j, j ≠ 2 * 8 + cg' → μA 20 j = μ 20 j := fun j hj => by rw [wA 20 (by decide) (by decide) (by decide) (by decide), cf.1 20 (by decide), q4 j hj]
  have sA : ∀ a, a ≠ 1 → a ≠ 19 → a ≠ 20 → a ≠ 21 → a ≠ 22 → a ≠ 23 → a ≠ 24 → μA a = μ a := fun a h1 h2 h3 h4 h5 h6 h7 => by rw [wA a h4 h5 h6 h7, cf.1 a h1, q5 a h1 h2 h3]
  have s2 : ∀ a, a ≠ 1 → a ≠ 19 → a ≠ 20 → μ2 a = μ a := fun a h1 h2 h3 => by rw [cf.1 a h1, q5 a h1 h2 h3]
  have ntk : ∀ t, t < 2 → NT 18 270 t μ ξ → NT 18 270 t μA ξC := fun t ht nt => by
    obtain ⟨u1, u2, u3⟩ := nt
    have et : ξC 270 t = ξ 270 t := ok t (by omega) (by omega) (by omega) (by omega) (by omega) (by omega)
    refine ⟨?_, by rw [et]; exact u2, fun k hk => ?_⟩
    · show μA 19 t = ξC 270 t
      rw [s19 t (by omega), et]; exact u1
    · rw [et] at hk
      show NM (μA 20 (t * 8 + k)) (ξC 270 (4 + 8 * t + k))
      rw [s20 _ (by omega), ok _ (by omega) (by omega) (by omega) (by omega) (by omega) (by omega)]
      exact u3 k hk
  have tcg : (nI cg').toInt = cg' := nI_toInt (by omega)
  have tc1 : (nI (cg' + 1)).toInt = ((cg' + 1 : Nat) : Int) := nI_toInt (by omega)
  refine ⟨⟨ntk 0 (by decide) n0, ntk 1 (by decide) n1, ?_, ?_, fun k hk => ?_⟩, fun g' hg => ?_, fun g' k hg hk hb => ?_, cg' + 1, ct, by omega, l2, ?_, c2, ?_, ?_, fun g' hg => ?_, fun t ht => ?_⟩
  · show μA 19 2 = ξC 270 2
    rw [wA 19 (by decide) (by decide) (by decide) (by decide), cf.1 19 (by decide), q2, c2]
  · rw [c2, tc1]; omega
  · rw [c2, tc1] at hk
    show NM (μA 20 (2 * 8 + k)) (ξC 270 (4 + 8 * 2 + k))
    by_cases ek : k = cg'
    · subst ek
      rw [wA 20 (by decide) (by decide) (by decide) (by decide), cf.1 20 (by decide), oj _ (by omega) (by omega) (by omega) (by omega) (by omega)]
      exact q1
    · rw [s20 _ (by omega), ok _ (by omega) (by omega) (by omega) (by omega) (by omega) (by omega)]
      exact n2.2.2 k (by rw [hcg, tcg]; omega)
  · rw [sA 25 (by decide) (by decide) (by decide) (by decide) (by decide) (by decide) (by decide), ok (48 + g') (by omega) (by omega) (by omega) (by omega) (by omega) (by omega)]
    exact mb g' hg
  · rw [ok (48 + g') (by omega) (by omega) (by omega) (by omega) (by omega) (by omega)] at hb
    rw [sA 26 (by decide) (by decide) (by decide) (by decide) (by decide) (by decide) (by decide), sA 27 (by decide) (by decide) (by decide) (by decide) (by decide) (by decide) (by decide), ok (53 + (6 * g' + k)) (by omega) (by omega) (by omega) (by omega) (by omega) (by omega), ok (83 + (6 * g' + k)) (by omega) (by omega) (by omega) (by omega) (by omega) (by omega)]
    obtain ⟨q1, q2, q3, q4, q5⟩ := mw g' k hg hk hb
    refine ⟨q1, q2, q3, by rw [ok 0 (by omega) (by omega) (by omega) (by omega) (by omega) (by omega)]; exact q4, ?_⟩
    rw [hcg, tcg] at q5
    rw [c2, tc1]
    omega
  · rw [ok 0 (by omega) (by omega) (by omega) (by omega) (by omega) (by omega)]; exact l3
  · rw [ok 3 (by omega) (by omega) (by omega) (by omega) (by omega) (by omega)]; exact l5
  · rw [sA 18 (by decide) (by decide) (by decide) (by decide) (by decide) (by decide) (by decide)]; exact l6
  · by_cases eg : g' = cg'
    · subst eg
      rw [a21, zUp_same, a22, if_pos rfl, a23, if_pos rfl, a24, if_pos rfl, o28, o33, o38, o43]
      exact ⟨rfl, rfl, rfl, rfl, gb⟩
    · rw [a21, zUp_slot _ eg, a22, if_neg eg, a23, if_neg eg, a24, if_neg eg, s2 21 (by decide) (by decide) (by decide), s2 22 (by decide) (by decide) (by decide), s2 23 (by decide) (by decide) (by decide), s2 24 (by decide) (by decide) (by decide), ok (28 + g') (by omega) (by omega) (by omega) (by omega) (by omega) (by omega), ok (33 + g') (by omega) (by omega) (by omega) (by omega) (by omega) (by omega), ok (38 + g') (by omega) (by omega) (by omega) (by omega) (by omega) (by omega), ok (43 + g') (by omega) (by omega) (by omega) (by omega) (by omega) (by omega)]
      exact gr g' (by omega)
  · obtain ⟨g', k, u1, u2, u3, u4, u5, u6, u7⟩ := tk t ht
    refine ⟨g', k, u1, u2, ?_, ?_, ?_, ?_, ?_⟩
    · rw [ok _ (by omega) (by omega) (by omega) (by omega) (by omega) (by omega)]; exact u3
    · rw [ok _ (by omega) (by omega) (by omega) (by omega) (by omega) (by omega)]; exact u4
    · rw [sA 28 (by decide) (by decide) (by decide) (by decide) (by decide) (by decide) (by decide)]; exact u5
    · rw [sA 29 (by decide) (by decide) (by decide) (by decide) (by decide) (by decide) (by decide), ok _ (by omega) (by omega) (by omega) (by omega) (by omega) (by omega)]; exact u6
    · rw [sA 30 (by decide) (by decide) (by decide) (by decide) (by decide) (by decide) (by decide), ok _ (by omega) (by omega) (by omega) (by omega) (by omega) (by omega), ok _ (by omega) (by omega) (by omega) (by omega) (by omega) (by omega)]; exact u7
