/-! a new name -/
theorem n101_bad {y1 y2 : Int32} {ξ : gM} (hb : ξ 267 6 ≠ 0) : fX12_newRead_n101 y1 y2 ξ = some (0, ξ) := by
  unfold fX12_newRead_n101
  rw [mFine0 hb, zBd_some, if_pos rfl]
theorem l59_bad {m : Nat} {y1 y2 y3 y4 : Int32} {ξ : gM} (hb : ξ 267 6 ≠ 0) : fX12_newRead_l59 (m + 1) y1 y2 y3 y4 ξ = some (0, ξ) := by
  rw [fX12_newRead_l59]
  by_cases c : (2 : Int32) < y4
  · rw [if_pos c, n101_bad hb]
  · rw [if_neg c, mFine0 hb, zBd_some, if_pos rfl, n101_bad hb]
theorem l59_none {m : Nat} {y1 y2 y3 y4 : Int32} {ξ : gM} (hb : ξ 267 6 = 0) (h4 : ¬ (2 : Int32) < y4) (hf : fX12_nameOf 270 y4 (ξ 267 10) ξ = some (-1)) : fX12_newRead_l59 (m + 1) y1 y2 y3 y4 ξ = fX12_newRead_l59 m y1 y2 y3 (y4 + 1) ξ := by
  rw [fX12_newRead_l59, if_neg h4, mFine1 hb, zBd_some, if_neg (show ¬ (1 : Int32) = 0 by decide), hf, zBd_some, if_pos rfl]
  rfl
theorem l59_hit {m : Nat} {y1 y2 y3 y4 v : Int32} {ξ ζ : gM} (hb : ξ 267 6 = 0) (h4 : ¬ (2 : Int32) < y4) (hf : fX12_nameOf 270 y4 (ξ 267 10) ξ = some v) (hv : v ≠ -1) (hz : fX12_fail 2 y3 ξ = some ζ) : fX12_newRead_l59 (m + 1) y1 y2 y3 y4 ξ = fX12_newRead_l59 m y1 y2 y3 (y4 + 1) ζ := by
  rw [fX12_newRead_l59, if_neg h4, mFine1 hb, zBd_some, if_neg (show ¬ (1 : Int32) = 0 by decide), hf, zBd_some, if_neg hv, hz, zBd_some]
  rfl
theorem l59_end {m : Nat} {y1 y2 y3 y4 : Int32} {ξ : gM} (h4 : (2 : Int32) < y4) : fX12_newRead_l59 (m + 1) y1 y2 y3 y4 ξ = fX12_newRead_n101 y1 y2 ξ := by
  rw [fX12_newRead_l59, if_pos h4]
/-- the tables of names of a draft -/
def DN (μ ξ : gM) : Prop := NT 18 270 0 μ ξ ∧ NT 18 270 1 μ ξ ∧ NT 18 270 2 μ ξ
/-- is it told: the class's answer, the reference's loop -/
theorem pTold {b : Nat → Nat} {n s e : Nat} {g : Int} {μ ξ : gM} {y1 y2 y3 : Int32} (dn : DN μ ξ) (w : WAt b n s g e) (hs : ξ 267 10 = nI (eM b s (e - s))) (hb : ξ 267 6 = 0) : (fX1_isTold 18 (nI (eC b s (e - s))) μ = some 0 ∧ fX12_newRead_l59 100000 y1 y2 y3 0 ξ = fX12_newRead_n101 y1 y2 ξ) ∨ (fX1_isTold 18 (nI (eC b s (e - s))) μ = some 1 ∧ ∃ ζ, fX12_newRead_l59 100000 y1 y2 y3 0 ξ = some (0, ζ) ∧ ζ 267 6 = 2 ∧ ζ 267 7 = y3 ∧ MF pF ξ ζ ∧ ζ 267 4 = ξ 267 4) := by
  obtain ⟨n0, n1, n2⟩ := dn
  obtain ⟨v0, a0, c0, -⟩ := pFind (a := 0) (t := 0) (by decide) rfl n0 w
  obtain ⟨v1, a1, c1, -⟩ := pFind (a := 1) (t := 1) (by decide) rfl n1 w
  obtain ⟨v2, a2, c2, -⟩ := pFind (a := 2) (t := 2) (by decide) rfl n2 w
  rw [← hs] at c0 c1 c2
  obtain ⟨ζ, z0, z1, z2, z3⟩ := mFail (k := 2) (p := y3) hb
  have zb : ζ 267 6 ≠ 0 := by rw [z1]; decide
  have zf : MF pF ξ ζ := z3.tr (MF.rf (P := pF) _) (fun i w => by unfold pF; omega) (fun _ w => w)
  unfold fX1_isTold
  rw [a0, zBd_some]
  rw [show (100000 : Nat) = 99996 + 1 + 1 + 1 + 1 from rfl]
  by_cases d0 : v0 = -1
  · rw [if_pos d0, a1, zBd_some]
    rw [d0] at c0
    rw [l59_none hb (by decide) c0]
    rw [show (0 : Int32) + 1 = 1 from rfl]
    by_cases d1 : v1 = -1
    · rw [if_pos d1, a2, zBd_some]
      rw [d1] at c1
      rw [l59_none hb (by decide) c1]
      rw [show (1 : Int32) + 1 = 2 from rfl]
      by_cases d2 : v2 = -1
      · rw [if_pos d2]
        rw [d2] at c2
        rw [l59_none hb (by decide) c2, l59_end (by decide)]
        exact Or.inl ⟨rfl, rfl⟩
      · rw [if_neg d2, l59_hit hb (by decide) c2 d2 z0, l59_bad zb]
        exact Or.inr ⟨rfl, ζ, rfl, z1, z2, zf, z3.2 4 (by omega)⟩
    · rw [if_neg d1, l59_hit hb (by decide) c1 d1 z0, l59_bad zb]
      exact Or.inr ⟨rfl, ζ, rfl, z1, z2, zf, z3.2 4 (by omega)⟩
  · rw [if_neg d0, l59_hit hb (by decide) c0 d0 z0, l59_bad zb]
    exact Or.inr ⟨rfl, ζ, rfl, z1, z2, zf, z3.2 4 (by omega)⟩
/-- what the reference does behind the keyword -/
def mTail (y1 y2 : Int32) (ζ : gM) : Option (Int32 × gM) := zBp (fX12_next ζ) (fun x6 μ7 => zBp (fX12_isName μ7) (fun x8 μ9 => (if x8 = 0 then zBd (fX12_unlike μ9) (fun μ23 => (fX12_newRead_l59 100000 y1 y2 x6 (0 : Int32) μ23)) else (fX12_newRead_l59 100000 y1 y2 x6 (0 : Int32) μ9))))
/-- a name is laid down in both drafts: the class counts it at once -/
def NewQ (b : Nat → Nat) (n t c : Nat) (μ ξ μ' ξ' : gM) : Prop := (∃ s' g', SIM b n s' g' μ' ξ') ∧ NM (μ' 20 (t * 8 + c)) (ξ' 270 (4 + 8 * t + c)) ∧ μ' 19 t = nI (c + 1) ∧ (∀ j, j ≠ t → μ' 19 j = μ 19 j) ∧ (∀ j, j ≠ t * 8 + c → μ' 20 j = μ 20 j) ∧ (∀ a, a ≠ 1 → a ≠ 19 → a ≠ 20 → μ' a = μ a) ∧ (∀ j, j ≠ 4 + 8 * t + c → ξ' 270 j = ξ 270 j) ∧ (∀ a, a ≠ 267 → a ≠ 270 → ξ' a = ξ a) ∧ (∀ i, ¬ pF i → ξ' 267 i = ξ 267 i)
theorem pNew {b : Nat → Nat} {n s t c : Nat} {g : Int} {μ ξ : gM} {a y2 : Int32} (ht : t < 3) (hat : a = nI t) (hc : (μ 19 t).toInt = c) (hy : y2.toInt = c) (hc7 : c ≤ 7) (h : SIM b n s g μ ξ) (dn : DN μ ξ) : ∃ (v y : Int32) (μ' ξ' : gM), fX2_readName a μ = some (v, μ') ∧ mTail a y2 ξ = some (y, ξ') ∧ μ' 1 2 = μ 1 2 ∧ ((v = 1 ∧ y = y2 ∧ NewQ b n t c μ ξ μ' ξ') ∨ (v = 0 ∧ y = 0 ∧ FLT b n μ' ξ' ∧ CF μ μ' ∧ MF pF ξ ξ')) := by
  have hn5 := h.1.2.1
  have ta : a.toInt = t := by rw [hat]; exact nI_toInt (by omega)
  have ca : a.toNatClampNeg = t := cl_of ta
  obtain ⟨p0, q1, q2, q3, q4⟩ := h.2.2.2.2.1
  obtain ⟨⟨x1, μ3⟩, e2, t1, k1, k2, a3, f3⟩ := mNext h.2.2.2.1 q1 q2
  have et : t1 = s := Skp.uniq k1 q3
  subst et
  have k2 : x1.toInt = t1 := k2
  have a3 : (μ3 267 4).toInt = t1 := a3
  have f3 : MF p4 ξ μ3 := f3
  have h3 : SIM b n t1 g μ μ3 := h.look f3 (by unfold p4; omega) (by unfold p4; omega) (by unfold p4; omega) a3
  have b3 := h3.2.2.2.2.2.2
  have tn : t1 ≤ n := q3.2.1
  have sk : Skp b n t1 t1 := ⟨Nat.le_refl _, tn, fun i a d => absurd d (by omega), q3.2.2.2⟩
  unfold mTail
  rw [e2, zBp_some]
  obtain ⟨⟨x11, μ12⟩, e12, t2, m1, m2, m3, m4⟩ := mIsName h3.2.2.2.1 a3 tn b3
  have et2 : t2 = t1 := Skp.uniq m1 sk
  subst et2
  have m2 : (μ12 267 4).toInt = t2 := m2
  have m3 : MF pW μ3 μ12 := m3
  rw [e12, zBp_some]
  have f12 : MF pF ξ μ12 := f3.tr m3 (fun i w => by unfold p4 at w; unfold pF; omega) (fun i w => by unfold pW at w; unfold pF; omega)
  have h12 : SIM b n t2 g μ μ12 := h3.look m3 (by unfold pW; omega) (by unfold pW; omega) (by unfold pW; omega) m2
  have b12 := h12.2.2.2.2.2.2
  have dn12 : DN μ μ12 := ⟨dn.1.mf (by decide) f12, dn.2.1.mf (by decide) f12, dn.2.2.mf (by decide) f12⟩
  unfold fX2_readName
  rcases m4 with ⟨e, w1, w2, w3, w4⟩ | ⟨w1, w2⟩
  · have w2 : x11 = 1 := w2
    have w3 : (μ12 267 11).toInt = ((e - t2 : Nat) : Int) := w3
    have w4 : μ12 267 10 = nI (eM b t2 (e - t2)) := w4
    have na : NAt b n t2 g e := (h3.gn e).mpr w1
    obtain ⟨c1, c2, c3⟩ := h.word na.1
    rcases cIsName h.2.1 h.2.2.1 with ⟨e', d1, d2, d3, d4, d5⟩ | ⟨d1, d2⟩
    · rw [d2, zBd_some, if_neg (show ¬ (1 : Int32) = 0 by decide), c2, w2, if_neg (show ¬ (1 : Int32) = 0 by decide)]
      rcases pTold (y1 := a) (y2 := y2) (y3 := x1) dn12 na.1 w4 b12 with ⟨o1, o2⟩ | ⟨o1, ζ, o2, o3, o4, o5, o6⟩
      · rw [o1, zBd_some, if_pos rfl, o2]
        have g3 : gIn a 3 = true := zIn ta (by omega) (by omega)
        have i1 : (a * 8 + μ 19 t).toInt = ((t * 8 + c : Nat) : Int) := (iA (iM ta (iL (8) (8) rfl) (by omega) (by omega)) hc (by omega) (by omega)).trans (by omega)
        have i2 : ((4 : Int32) + (8 : Int32) * a + y2).toInt = ((4 + 8 * t + c : Nat) : Int) := (iA (iA (iL (4) (4) rfl) (iM (iL (8) (8) rfl) ta (by omega) (by omega)) (by omega) (by omega)) hy (by omega) (by omega)).trans (by omega)
        unfold fX12_newRead_n101
        rw [mFine1 b12, zBd_some, if_neg (show ¬ (1 : Int32) = 0 by decide)]
        simp only [zLt, zCk]
        rw [if_pos g3, ca, if_pos (zIn i1 (by omega) (by omega)), cl_of i1, if_pos g3, if_pos (zIn i2 (by omega) (by omega)), cl_of i2, w4]
        generalize eA : gUp (gUp μ 20 (t * 8 + c) (nI (eC b t2 (e - t2)))) 19 t (μ 19 t + 1) = μA
        generalize eB : gUp μ12 270 (4 + 8 * t + c) (nI (eM b t2 (e - t2))) = ξB
        have wA : ∀ q, q ≠ 19 → q ≠ 20 → μA q = μ q := fun q h1 h2 => by rw [← eA, zUp_ne _ h1, zUp_ne _ h2]
        have wB : ∀ q, q ≠ 270 → ξB q = μ12 q := fun q h1 => by rw [← eB, zUp_ne _ h1]
        have hle : e ≤ n := na.1.2.2.1.2.1
        have hse : t2 ≤ e := na.1.2.2.1.1
        obtain ⟨ζ, z0, z1, z2, z3⟩ := mPass (ξ := ξB) (by rw [wB 267 (by decide)]; exact m2) (by rw [wB 267 (by decide)]; exact w3) (by omega)
        have ee : t2 + (e - t2) = e := by omega
        rw [ee] at z1 z2
        have hcA : CT b n μA := ⟨by rw [wA 1 (by decide) (by decide)]; exact h.1.1, h.1.2.1, fun i hi => by rw [wA 2 (by decide) (by decide)]; exact h.1.2.2 i hi⟩
        have hoA : OWN μA := by
          unfold OWN
          rw [wA 3 (by decide) (by decide), wA 1 (by decide) (by decide)]
          exact h.2.2.1
        have hmB : MT b n ξB := ⟨by rw [wB 267 (by decide)]; exact h12.2.2.2.1.1, hn5, fun i hi => by rw [wB 268 (by decide)]; exact h12.2.2.2.1.2.2 i hi⟩
        obtain ⟨ν, n0, l1, l2⟩ := SIM.adv hcA hoA (by rw [wA 1 (by decide) (by decide)]; exact c3) hle (by rw [wA 1 (by decide) (by decide)]; exact Or.inl c1) (hmB.mf z3 (by omega)) z1 z2 (by rw [z3.2 6 (by omega), wB 267 (by decide)]; exact b12)
        rw [n0, z0, zBd_some, zBd_some]
        refine ⟨1, y2, ν, ζ, rfl, rfl, by rw [l1.2.1, wA 1 (by decide) (by decide)], Or.inl ⟨rfl, rfl, l2, ?_, ?_, fun j hj => ?_, fun j hj => ?_, fun q h1 h2 h4 => by rw [l1.1 q h1, wA q h2 h4], fun j hj => ?_, fun q h1 h2 => by rw [z3.1 q h1, wB q h2, f12.1 q h1], fun i hi => by rw [z3.2 i (fun w => hi (by unfold pF; omega)), wB 267 (by decide), f12.2 i hi]⟩⟩
        · rw [l1.1 20 (by decide), z3.1 270 (by decide), ← eA, ← eB, zUp_ne _ (by decide), zUp_same, zUp_same]
          exact NM.of na.1
        · rw [l1.1 19 (by decide), ← eA, zUp_same]
          refine nI_of' ?_
          rw [iA hc (iL (1) (1) rfl) (by omega) (by omega)]
          omega
        · rw [l1.1 19 (by decide), ← eA, zUp_slot _ hj, zUp_ne _ (by decide)]
        · rw [l1.1 20 (by decide), ← eA, zUp_ne _ (by decide), zUp_slot _ hj]
        · rw [z3.1 270 (by decide), ← eB, zUp_slot _ hj, f12.1 270 (by decide)]
      · rw [o1, zBd_some, if_neg (show ¬ (1 : Int32) = 0 by decide), o2]
        obtain ⟨ν, r1, r2, r3, r4⟩ := cRefuse (k := 2) (p := μ 1 5) (μ := μ)
        rw [r1, zBp_some]
        refine ⟨0, 0, ν, ζ, rfl, rfl, r4.2, Or.inr ⟨rfl, rfl, ⟨by rw [r2, o3], by rw [r3, o4]; exact i_eq h.2.1.1 k2, by rw [o3]; decide, h12.2.2.2.1.mf o5 (by unfold pF; omega), t2, by rw [o6]; exact m2, tn⟩, r4, f12.tr o5 (fun _ w => w) (fun _ w => w)⟩⟩
    · exact absurd na (d1 e)
  · have w2 : x11 = 0 := w2
    rw [w2, if_pos rfl]
    rcases cIsName h.2.1 h.2.2.1 with ⟨e', d1, d2, d3, d4, d5⟩ | ⟨d1, d2⟩
    · exact absurd ((h3.gn e').mp d1) (w1 e')
    · rw [d2, zBd_some, if_pos rfl]
      obtain ⟨ζ, z0, t3, j1, j2, j3, j4, j5⟩ := mUnlike h12.2.2.2.1 m2 tn b12
      have et3 : t3 = t2 := Skp.uniq j1 sk
      obtain ⟨ν, r1, r2, r3, r4⟩ := cRefuse (k := 1) (p := μ 1 5) (μ := μ)
      rw [r1, zBp_some, z0, zBd_some, show (100000 : Nat) = 99999 + 1 from rfl, l59_bad (by rw [j2]; decide)]
      refine ⟨0, 0, ν, ζ, rfl, rfl, r4.2, Or.inr ⟨rfl, rfl, ⟨by rw [r2, j2], by rw [r3]; exact i_eq h.2.1.1 (by rw [j3, et3]), by rw [j2]; decide, h12.2.2.2.1.mf j4 (by unfold pF; omega), t3, j5, j1.2.1⟩, r4, f12.tr j4 (fun _ w => w) (fun _ w => w)⟩⟩
