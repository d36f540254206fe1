/-! a plan's text -/
theorem nSg {ξ ζ : gM} (e : fX12_eventRead_n284 ξ = some ζ) (t : nTP ξ) (w : ζ 267 6 = 0) : nTP ζ ∧ nPh ξ ≤ (ζ 267 4).toInt := by
  unfold fX12_eventRead_n284 at e
  obtain ⟨μ4, f1, f2⟩ := bdI e
  obtain rfl := Option.some.inj f2
  obtain ⟨n1, n2⟩ := nNeeds f1
  exact ⟨(n1.2 t w).1, n2 t w⟩
theorem nLay {a1 a2 a3 a4 a5 : Int32} {ξ ζ : gM} (e : fX12_laysEvent a1 a2 a3 a4 a5 ξ = some ζ) : nPG 0 ξ ζ := gX12_laysEvent (m := ξ) (nPG.rf ξ) _ e
theorem nE100 {y1 : Int32} {ξ ζ : gM} (e : fX12_eventRead_n100 y1 ξ = some ζ) (w : ζ 267 6 = 0) : ∃ χ, nPG 5 ξ χ ∧ fX12_eventRead_n284 χ = some ζ := by
  unfold fX12_eventRead_n100 at e
  obtain ⟨x9, μ10, a1, a2⟩ := bpI e
  have q1 := nTakes (k := 15) (by decide) rfl a1
  by_cases h1 : x9 = 0
  · rw [if_pos h1] at a2
    have p1 : nPG 0 ξ μ10 := by rcases q1 with ⟨-, q⟩ | ⟨z, -⟩; exact q; exact absurd h1 z
    obtain ⟨x11, μ12, b1, b2⟩ := bpI a2
    have q2 := nTakes (k := 16) (by decide) rfl b1
    by_cases h2 : x11 = 0
    · rw [if_pos h2] at b2
      have p2 : nPG 0 ξ μ12 := by rcases q2 with ⟨-, q⟩ | ⟨z, -⟩; exact p1.tr q; exact absurd h2 z
      obtain ⟨x13, μ14, c1, c2⟩ := bpI b2
      have q3 := nTakes (k := 17) (by decide) rfl c1
      by_cases h3 : x13 = 0
      · rw [if_pos h3] at c2
        have p3 : nPG 0 ξ μ14 := by rcases q3 with ⟨-, q⟩ | ⟨z, -⟩; exact p2.tr q; exact absurd h3 z
        obtain ⟨x15, μ16, d1, d2⟩ := bpI c2
        have q4 := nTakes (k := 18) (by decide) rfl d1
        by_cases h4 : x15 = 0
        · rw [if_pos h4] at d2
          have p4 : nPG 0 ξ μ16 := by rcases q4 with ⟨-, q⟩ | ⟨z, -⟩; exact p3.tr q; exact absurd h4 z
          obtain ⟨x17, μ18, e1, e2⟩ := bpI d2
          have q5 := nTakes (k := 19) (by decide) rfl e1
          by_cases h5 : x17 = 0
          · rw [if_pos h5] at e2
            have p5 : nPG 0 ξ μ18 := by rcases q5 with ⟨-, q⟩ | ⟨z, -⟩; exact p4.tr q; exact absurd h5 z
            obtain ⟨x19, μ20, f1, f2⟩ := bpI e2
            have q6 := nTakes (k := 20) (by decide) rfl f1
            by_cases h6 : x19 = 0
            · rw [if_pos h6] at f2
              have p6 : nPG 0 ξ μ20 := by rcases q6 with ⟨-, q⟩ | ⟨z, -⟩; exact p5.tr q; exact absurd h6 z
              obtain ⟨x21, μ22, g1, g2⟩ := bpI f2
              have q7 := nTakes (k := 9) (by decide) rfl g1
              by_cases h7 : x21 = 0
              · rw [if_pos h7] at g2
                obtain ⟨x23, i1, i2⟩ := bdI g2
                rcases nFine i1 with ⟨rfl, cx⟩ | ⟨cx, -⟩
                · rw [if_pos rfl] at i2
                  exact absurd w (bX12_eventRead_n284 (SB.rf _) _ i2 cx)
                · rw [if_neg cx] at i2
                  obtain ⟨μ25, i3, i4⟩ := bdI i2
                  exact absurd w (bX12_eventRead_n284 (SB.rf _) _ i4 (nUnl i3))
              · rw [if_neg h7] at g2
                have p7 : nPG 5 ξ μ22 := by rcases q7 with ⟨z, -⟩ | ⟨-, q⟩; exact absurd z h7; exact p6.tr q
                obtain ⟨μ27, i1, i2⟩ := bdI g2
                exact ⟨μ27, p7.tr (gX12_wordRead (m := μ22) (nPG.rf μ22) _ i1 : nPG 0 μ22 μ27), i2⟩
            · rw [if_neg h6] at f2
              have p6 : nPG 5 ξ μ20 := by rcases q6 with ⟨z, -⟩ | ⟨-, q⟩; exact absurd z h6; exact p5.tr q
              obtain ⟨μ29, i1, i2⟩ := bdI f2
              exact ⟨μ29, p6.tr (nLay i1), i2⟩
          · rw [if_neg h5] at e2
            have p5 : nPG 6 ξ μ18 := by rcases q5 with ⟨z, -⟩ | ⟨-, q⟩; exact absurd z h5; exact p4.tr q
            obtain ⟨μ31, i1, i2⟩ := bdI e2
            exact ⟨μ31, (p5.tr (gX12_splitRead (m := μ18) (nPG.rf μ18) _ i1 : nPG 0 μ18 μ31)).le (by decide), i2⟩
        · rw [if_neg h4] at d2
          have p4 : nPG 5 ξ μ16 := by rcases q4 with ⟨z, -⟩ | ⟨-, q⟩; exact absurd z h4; exact p3.tr q
          obtain ⟨x33, μ34, i1, i2⟩ := bpI d2
          obtain ⟨μ35, i3, i4⟩ := bdI i2
          exact ⟨μ35, ((p4.tr (nOne (by decide) i1).1).tr (nLay i3)).le (by decide), i4⟩
      · rw [if_neg h3] at c2
        have p3 : nPG 4 ξ μ14 := by rcases q3 with ⟨z, -⟩ | ⟨-, q⟩; exact absurd z h3; exact p2.tr q
        obtain ⟨x33, μ34, i1, i2⟩ := bpI c2
        obtain ⟨μ35, i3, i4⟩ := bdI i2
        exact ⟨μ35, ((p3.tr (nOne (by decide) i1).1).tr (nLay i3)).le (by decide), i4⟩
    · rw [if_neg h2] at b2
      have p2 : nPG 5 ξ μ12 := by rcases q2 with ⟨z, -⟩ | ⟨-, q⟩; exact absurd z h2; exact p1.tr q
      obtain ⟨x33, μ34, i1, i2⟩ := bpI b2
      obtain ⟨μ35, i3, i4⟩ := bdI i2
      exact ⟨μ35, ((p2.tr (nOne (by decide) i1).1).tr (nLay i3)).le (by decide), i4⟩
  · rw [if_neg h1] at a2
    have p1 : nPG 3 ξ μ10 := by rcases q1 with ⟨z, -⟩ | ⟨-, q⟩; exact absurd z h1; exact q
    obtain ⟨x33, μ34, i1, i2⟩ := bpI a2
    obtain ⟨μ35, i3, i4⟩ := bdI i2
    exact ⟨μ35, ((p1.tr (nOne (by decide) i1).1).tr (nLay i3)).le (by decide), i4⟩
theorem nEvt {n : Nat} {ξ ζ : gM} (e : fX12_eventRead (nI n) ξ = some ζ) (w : ζ 267 6 = 0) (t : nTP ξ) : nTP ζ ∧ nPh ξ + 10 ≤ (ζ 267 4).toInt ∧ n ≠ 20 := by
  unfold fX12_eventRead at e
  obtain ⟨x1, μ2, e1, e2⟩ := bpI e
  obtain ⟨p1, s1⟩ := nIsW (k := 14) (by decide) rfl e1
  by_cases h1 : x1 = 0
  · rw [if_pos h1] at e2
    obtain ⟨μ62, f1, f2⟩ := bdI e2
    exact absurd w (bX12_eventRead_n13 (SB.rf _) _ f2 (nUnl f1))
  · rw [if_neg h1] at e2
    unfold fX12_eventRead_n13 at e2
    by_cases h20 : nI n = 20
    · rw [if_pos h20] at e2
      obtain ⟨x58, μ59, f1, f2⟩ := bpI e2
      obtain ⟨μ60, f3, f4⟩ := bdI f2
      exact absurd w (bX12_eventRead_n29 (SB.rf _) _ f4 (nFailK (by decide) f3))
    · rw [if_neg h20] at e2
      have w2 : μ2 267 6 = 0 := SB.c (bX12_eventRead_n29 (SB.rf _) _ e2) w
      unfold fX12_eventRead_n29 at e2
      obtain ⟨x3, f1, f2⟩ := bdI e2
      rcases nFine f1 with ⟨rfl, cx⟩ | ⟨cx, -⟩
      · exact absurd w2 cx
      · rw [if_neg cx] at f2
        obtain ⟨μ4, f3, f4⟩ := bdI f2
        obtain ⟨x5, μ6, f5, f6⟩ := bpI f4
        obtain ⟨x7, f7, f8⟩ := bdI f6
        have n84 : fX12_eventRead_n84 (nI n) x5 μ6 = some ζ := by
          rcases nFine f7 with ⟨rfl, -⟩ | ⟨cx, -⟩
          · rw [if_pos rfl] at f8; exact f8
          · rw [if_neg cx] at f8
            by_cases c0 : nI n ≤ 0
            · rw [if_pos c0] at f8; exact f8
            · rw [if_neg c0] at f8
              have f8 := ckI f8
              split at f8
              · exact f8
              · obtain ⟨μ53, f9, f10⟩ := bdI f8
                exact absurd w (bX12_eventRead_n84 (SB.rf _) _ f10 (nFailK (by decide) f9))
        obtain ⟨χ, p84, n100⟩ : ∃ χ, nPG 0 μ6 χ ∧ fX12_eventRead_n100 (nI n) χ = some ζ := by
          unfold fX12_eventRead_n84 at n84
          obtain ⟨x8, g1, g2⟩ := bdI n84
          rcases nFine g1 with ⟨rfl, -⟩ | ⟨cx, -⟩
          · rw [if_pos rfl] at g2
            exact ⟨μ6, nPG.rf _, g2⟩
          · rw [if_neg cx] at g2
            have g2 := ckI g2
            rw [zLt_eq] at g2
            exact ⟨_, nPG_g (Or.inr rfl), g2⟩
        obtain ⟨ω, p100, n284⟩ := nE100 n100 w
        have wω : ω 267 6 = 0 := SB.c (bX12_eventRead_n284 (SB.rf _) _ n284) w
        obtain ⟨t2, q2⟩ := p1.2 t w2
        obtain ⟨t4, q4, -⟩ := nPassW f3 (s1 h1 t w2)
        obtain ⟨tω, qω⟩ := (((nNum f5).tr p84).tr p100).2 t4 wω
        obtain ⟨tz, qz⟩ := nSg n284 tω w
        have w2' : wl 14 = 2 := by decide
        rw [w2'] at q4
        exact ⟨tz, by omega, fun z => h20 (by rw [z]; rfl)⟩
def nEQ (n : Nat) (μ : gM) : Prop := μ 267 6 = 0 → nTP μ ∧ 10 * (n : Int) ≤ (μ 267 4).toInt ∧ n ≤ 20
theorem nPlanL : ∀ (m n : Nat) (v : Int32) (μ ζ : gM), fX12_plan_l26 m (nI n) μ = some (v, ζ) → nEQ n μ → ∃ χ n', fX12_plan_n51 (nI n') χ = some (v, ζ) ∧ NF μ χ ∧ nEQ n' χ := by
  intro m
  induction m with
  | zero => intro _ _ _ _ e; exact nomatch e
  | succ m ih =>
    intro n v μ ζ e q
    rw [fX12_plan_l26] at e
    obtain ⟨x3, e1, e2⟩ := bdI e
    rcases nFine e1 with ⟨rfl, cx⟩ | ⟨cx, cf⟩
    · rw [if_pos rfl] at e2
      exact ⟨μ, n, e2, NF.rf _, q⟩
    · rw [if_neg cx] at e2
      obtain ⟨x14, μ15, e3, e4⟩ := bpI e2
      obtain ⟨u, e3'⟩ := nOver e3
      have f15 : NF μ μ15 := wX12_isOver (NF.rf _) _ e3
      obtain ⟨t, b, n20⟩ := q cf
      obtain ⟨t2, -, a2, -, w6, -, -⟩ := nNext e3' t
      have q15 : nEQ n μ15 := fun _ => ⟨t2, by omega, n20⟩
      by_cases c : x14 = 0
      · rw [if_pos c] at e4
        obtain ⟨μ16, e5, e6⟩ := bdI e4
        rw [zLt_eq, nI_1 n] at e6
        have q16 : nEQ (n + 1) μ16 := fun w => by
          obtain ⟨a, b2, c2⟩ := nEvt e5 w t2
          have := (nPh_at μ15).1
          exact ⟨a, by omega, by omega⟩
        obtain ⟨χ, n', h1, h2, h3⟩ := ih _ _ _ _ e6 q16
        exact ⟨χ, n', h1, (f15.tr (wX12_eventRead (NF.rf _) _ e5)).tr h2, h3⟩
      · rw [if_neg c] at e4
        exact ⟨μ15, n, e4, f15, q15⟩
