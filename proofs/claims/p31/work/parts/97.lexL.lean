/-! groups: the text -/
def mGRest (x1 : Int32) (μ2 : gM) : Option gM := zBd (fX12_asks (5969497 : Int32) μ2) (fun μ3 => zBp (fX12_number (1 : Int32) (40 : Int32) μ3) (fun x4 μ5 => zBp (fX12_takes (4370489 : Int32) μ5) (fun x6 μ7 => (if x6 = 0 then zBp (fX12_takes (11703827 : Int32) μ7) (fun x8 μ9 => (fX12_groupRead_n53 x1 x4 x8 (0 : Int32) μ9)) else zBp (fX12_number (0 : Int32) (99 : Int32) μ7) (fun x27 μ28 => (fX12_groupRead_n53 x1 x4 (0 : Int32) x27 μ28))))))
def Both (b : Nat → Nat) (n : Nat) (μ ξ : gM) (v : Int32) (μ' ξ' : gM) : Prop := XF μ μ' ∧ YF ξ ξ' ∧ ((v = 1 ∧ (∃ s' g', SIM b n s' g' μ' ξ') ∧ DR μ' ξ') ∨ (v = 0 ∧ FLT b n μ' ξ'))
theorem CF.tr' {μ ν χ : gM} (h : CF μ ν) (g : LF ν χ) : CF μ χ := h.tr g.cf
theorem MF.trF {ξ ζ χ : gM} (h : MF pF ξ ζ) (g : MF pF ζ χ) : MF pF ξ χ := h.tr g (fun _ w => w) (fun _ w => w)
theorem g96 {b : Nat → Nat} {n s cg : Nat} {g : Int} {μ ξ μ1 ξ1 μ2 ξ2 : gM} {y1 y2 y3 y4 kp : Int32} (h : SIM b n s g μ2 ξ2) (dr : DR μ ξ) (nq : NewQ b n 2 cg μ ξ μ1 ξ1) (e1 : μ1 1 2 = μ 1 2) (cf : CF μ1 μ2) (mf : MF pF ξ1 ξ2) (hcg : ξ 270 2 = nI cg) (c4 : cg ≤ 4) (hy : y1 = nI cg) (hk : y4 = if kp = 0 then 0 else 1) (h2 : y2 ≠ -1) (h3 : y3 ≠ -1) (b2 : 1 ≤ y2.toInt ∧ y2.toInt ≤ 40) (b3 : 0 ≤ y3.toInt ∧ y3.toInt ≤ 99) : ∃ v μ' ξ', fX2_readGroup_n96 y1 y2 y3 y4 μ2 = some (v, μ') ∧ fX12_groupRead_n53 y1 y2 kp y3 ξ2 = some ξ' ∧ Both b n μ ξ v μ' ξ' := by
  unfold fX2_readGroup_n96 fX12_groupRead_n53
  rw [if_neg h2, if_neg h3]
  have b4 : y4 = 0 ∨ y4 = 1 := by
    rw [hk]
    split
    · exact Or.inl rfl
    · exact Or.inr rfl
  obtain ⟨v, μ3, ξ3, u1, u2, hv, l1, l2, s3, g3, h3'⟩ := pTakes (k := 6) (a := 6) (w := 20332179) (by decide) rfl rfl h
  rw [u1, u2, zBp_some, zBp_some]
  have cf3 := cf.tr' l1
  have mf3 := mf.trF l2
  rcases hv with rfl | rfl
  · rw [if_pos rfl, if_pos rfl]
    obtain ⟨μ', ξ', w1, w2, w3, w4, w5, w6⟩ := pGroupEnd (y2 := y2) (y3 := y3) (z0 := 1) h3' dr nq e1 cf3 mf3 hcg c4 hy hk (by decide) ⟨b2, b3, b4, by decide, by decide⟩
    exact ⟨1, μ', ξ', w1, w2, w3, w4, Or.inl ⟨rfl, w5, w6⟩⟩
  · rw [if_neg (show ¬ (1 : Int32) = 0 by decide), if_neg (show ¬ (1 : Int32) = 0 by decide)]
    obtain ⟨x, y, μ4, ξ4, p1, p2, p3, p4, p5⟩ := pNumber (lo := 1) (hi := 8) (by decide) h3'
    rw [p1, p2, zBp_some, zBp_some]
    have cf4 := cf3.tr p3
    have mf4 := mf3.trF p4
    rcases p5 with ⟨rfl, r1, r2, s4, g4, h4⟩ | ⟨rfl, r1⟩
    · have xn : x ≠ -1 := fun q => by
        rw [q] at r1
        have t1 : (-1 : Int32).toInt = -1 := rfl
        have t2 : (1 : Int32).toInt = 1 := rfl
        omega
      obtain ⟨μ', ξ', w1, w2, w3, w4, w5, w6⟩ := pGroupEnd (y2 := y2) (y3 := y3) (z0 := x) h4 dr nq e1 cf4 mf4 hcg c4 hy hk xn ⟨b2, b3, b4, r1, r2⟩
      exact ⟨1, μ', ξ', w1, w2, w3, w4, Or.inl ⟨rfl, w5, w6⟩⟩
    · rw [bN73 r1.2.2.1]
      have t1 : y1.toInt = cg := by rw [hy]; exact nI_toInt (by omega)
      have g5 : gIn y1 5 = true := zIn t1 (by omega) (by omega)
      unfold fX2_readGroup_n134
      simp only [zCk, zLt]
      rw [if_pos g5, if_pos g5, if_pos g5, if_pos g5, if_pos trivial]
      refine ⟨0, _, ξ4, rfl, rfl, ?_, nq.yf.tr mf4.yf, Or.inr ⟨rfl, ?_⟩⟩
      · refine (nq.xf e1).tr (cf4.xf.tr ⟨fun a h1 h2 => ?_, ?_⟩)
        · rw [zUp_ne _ (by omega), zUp_ne _ (by omega), zUp_ne _ (by omega), zUp_ne _ (by omega)]
        · rw [zUp_ne _ (by decide), zUp_ne _ (by decide), zUp_ne _ (by decide), zUp_ne _ (by decide)]
      · unfold FLT at *
        rw [zUp_ne _ (show (1 : Nat) ≠ 24 by decide), zUp_ne _ (show (1 : Nat) ≠ 23 by decide), zUp_ne _ (show (1 : Nat) ≠ 22 by decide), zUp_ne _ (show (1 : Nat) ≠ 21 by decide)]
        exact r1
theorem pGroup {b : Nat → Nat} {n s cg : Nat} {g : Int} {μ ξ : gM} {x2 : Int32} (h : SIM b n s g μ ξ) (dr : DR μ ξ) (hcg : ξ 270 2 = nI cg) (c4 : cg ≤ 4) (hx : x2 = nI cg) : ∃ v μ' ξ', fX2_readGroup μ = some (v, μ') ∧ zBp (mTail 2 x2 ξ) mGRest = some ξ' ∧ Both b n μ ξ v μ' ξ' := by
  subst hx
  have tcg : (nI cg).toInt = cg := nI_toInt (by omega)
  have m19 : μ 19 2 = nI cg := by
    have := dr.1.2.2.1
    rw [← hcg]
    exact this
  obtain ⟨v, y, μ1, ξ1, u1, u2, e1, u3⟩ := pNew (t := 2) (c := cg) (a := 2) (y2 := nI cg) (by decide) rfl (by rw [m19]; exact tcg) tcg (by omega) h dr.1
  unfold fX2_readGroup
  simp only [zLt]
  rw [u1, u2, zBp_some, zBp_some, m19]
  rcases u3 with ⟨rfl, rfl, nq⟩ | ⟨rfl, rfl, fl, cf, mf⟩
  · obtain ⟨s1, g1, h1⟩ := nq.1
    rw [if_neg (show ¬ (1 : Int32) = 0 by decide)]
    unfold mGRest
    obtain ⟨v2, μ3, ξ3, a1, a2, a3, a4, a5⟩ := pAsks (k := 3) (a := 3) (w := 5969497) (by decide) rfl rfl h1
    rw [a1, a2, zBp_some, zBd_some]
    have cf3 : CF μ1 μ3 := a3
    have mf3 : MF pF ξ1 ξ3 := a4
    rcases a5 with ⟨rfl, s3, g3, h3⟩ | ⟨rfl, fl⟩
    · rw [if_neg (show ¬ (1 : Int32) = 0 by decide)]
      obtain ⟨x, y, μ5, ξ5, b1, b2, b3, b4, b5⟩ := pNumber (lo := 1) (hi := 40) (by decide) h3
      rw [b1, b2, zBp_some, zBp_some]
      have cf5 := cf3.tr b3
      have mf5 := mf3.trF b4
      rcases b5 with ⟨rfl, r1, r2, s5, g5, h5⟩ | ⟨rfl, fl⟩
      · have xn : x ≠ -1 := fun q => by
          rw [q] at r1
          have t1 : (-1 : Int32).toInt = -1 := rfl
          have t2 : (1 : Int32).toInt = 1 := rfl
          omega
        rw [if_neg xn]
        obtain ⟨v6, μ7, ξ7, c1, c2, hv, l1, l2, s7, g7, h7⟩ := pTakes (k := 4) (a := 4) (w := 4370489) (by decide) rfl rfl h5
        rw [c1, c2, zBp_some, zBp_some]
        have cf7 := cf5.tr' l1
        have mf7 := mf5.trF l2
        rcases hv with rfl | rfl
        · rw [if_pos rfl, if_pos rfl]
          unfold fX2_readGroup_n77
          rw [if_neg xn]
          obtain ⟨v8, μ9, ξ9, d1, d2, hv, k1, k2, s9, g9, h9⟩ := pTakes (k := 5) (a := 5) (w := 11703827) (by decide) rfl rfl h7
          rw [d1, d2, zBp_some, zBp_some]
          have cf9 := cf7.tr' k1
          have mf9 := mf7.trF k2
          rcases hv with rfl | rfl
          · rw [if_pos rfl]
            exact g96 (kp := 0) h9 dr nq e1 cf9 mf9 hcg c4 rfl rfl xn (by decide) ⟨r1, r2⟩ ⟨by decide, by decide⟩
          · rw [if_neg (show ¬ (1 : Int32) = 0 by decide)]
            exact g96 (kp := 1) h9 dr nq e1 cf9 mf9 hcg c4 rfl rfl xn (by decide) ⟨r1, r2⟩ ⟨by decide, by decide⟩
        · rw [if_neg (show ¬ (1 : Int32) = 0 by decide), if_neg (show ¬ (1 : Int32) = 0 by decide)]
          obtain ⟨x9, y9, μ9, ξ9, d1, d2, d3, d4, d5⟩ := pNumber (lo := 0) (hi := 99) (by decide) h7
          rw [d1, d2, zBp_some, zBp_some]
          have cf9 := cf7.tr d3
          have mf9 := mf7.trF d4
          rcases d5 with ⟨rfl, r3, r4, s9, g9, h9⟩ | ⟨rfl, fl⟩
          · have yn : x9 ≠ -1 := fun q => by
              rw [q] at r3
              have t1 : (-1 : Int32).toInt = -1 := rfl
              have t2 : (0 : Int32).toInt = 0 := rfl
              omega
            exact g96 (kp := 0) h9 dr nq e1 cf9 mf9 hcg c4 rfl rfl xn yn ⟨r1, r2⟩ ⟨r3, r4⟩
          · rw [bN53 fl.2.2.1]
            unfold fX2_readGroup_n96
            rw [if_neg xn, if_pos rfl]
            exact ⟨0, μ9, ξ9, rfl, rfl, (nq.xf e1).tr cf9.xf, nq.yf.tr mf9.yf, Or.inr ⟨rfl, fl⟩⟩
      · have bb := fl.2.2.1
        rw [if_pos rfl, bTakes bb, zBp_some, if_pos rfl, bTakes bb, zBp_some, bN53 bb]
        unfold fX2_readGroup_n77 fX2_readGroup_n96
        rw [if_pos rfl, if_pos rfl]
        exact ⟨0, μ5, ξ5, rfl, rfl, (nq.xf e1).tr cf5.xf, nq.yf.tr mf5.yf, Or.inr ⟨rfl, fl⟩⟩
    · rw [if_pos rfl]
      have bb := fl.2.2.1
      obtain ⟨ζ, z0, z1, z2⟩ := bNumber (a1 := 1) (a2 := 40) fl.2.2.2 bb
      have bz : ζ 267 6 ≠ 0 := by rw [z1.bad]; exact bb
      rw [z0, zBp_some, bTakes bz, zBp_some, if_pos rfl, bTakes bz, zBp_some, bN53 bz]
      exact ⟨0, μ3, ζ, rfl, rfl, (nq.xf e1).tr cf3.xf, (nq.yf.tr mf3.yf).tr z1.yf, Or.inr ⟨rfl, fl.bf z1 z2⟩⟩
  · rw [if_pos rfl]
    have bb := fl.2.2.1
    obtain ⟨ζ, z0, z1, z2⟩ := bNumber (a1 := 1) (a2 := 40) fl.2.2.2 bb
    have bz : ζ 267 6 ≠ 0 := by rw [z1.bad]; exact bb
    unfold mGRest
    rw [bAsks bb, zBd_some, z0, zBp_some, bTakes bz, zBp_some, if_pos rfl, bTakes bz, zBp_some, bN53 bz]
    exact ⟨0, μ1, ζ, rfl, rfl, cf.xf, mf.yf.tr z1.yf, Or.inr ⟨rfl, fl.bf z1 z2⟩⟩
