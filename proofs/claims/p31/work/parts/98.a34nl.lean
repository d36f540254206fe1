/-! statements of a net: how long they are at least -/
def nRI (ξ : gM) (c0 c1 c2 c3 : Nat) : Prop := (ξ 270 0 = nI c0 ∧ ξ 270 1 = nI c1 ∧ ξ 270 2 = nI c2 ∧ ξ 270 3 = nI c3) ∧ c0 ≤ 6 ∧ c1 ≤ 8 ∧ c2 ≤ 5 ∧ c3 ≤ 24
def nMc (r : Nat → Int32) : Nat := lq_rw (fun p => bt (r (48 + p / 6)) (p % 6)) 30
theorem nMc_cg {r r' : Nat → Int32} (h : ∀ i, 48 ≤ i → i < 53 → r' i = r i) : nMc r' = nMc r := lq_rw_cg (fun j hj => by rw [h _ (by omega) (by omega)])
/-- rows but for names -/
def nRN (ξ ζ : gM) : Prop := ∀ i, (i < 4 ∨ 28 ≤ i) → ζ 270 i = ξ 270 i
theorem nL59 {y1 y2 : Int32} : ∀ (m : Nat) (y3 y4 v : Int32) (μ ζ : gM), fX12_newRead_l59 m y1 y2 y3 y4 μ = some (v, ζ) → ζ 267 6 = 0 → fX12_newRead_n101 y1 y2 μ = some (v, ζ) := by
  intro m
  induction m with
  | zero => intro _ _ _ _ _ e; exact nomatch e
  | succ m ih =>
    intro y3 y4 v μ ζ e w
    rw [fX12_newRead_l59] at e
    by_cases c : (2 : Int32) < y4
    · rw [if_pos c] at e; exact e
    · rw [if_neg c] at e
      obtain ⟨x, e1, e2⟩ := bdI e
      rcases nFine e1 with ⟨rfl, -⟩ | ⟨cx, -⟩
      · rw [if_pos rfl] at e2; exact e2
      · rw [if_neg cx] at e2
        obtain ⟨x16, e3, e4⟩ := bdI e2
        by_cases c6 : x16 = -1
        · rw [if_pos c6, zLt_eq] at e4
          exact ih _ _ _ _ _ e4 w
        · rw [if_neg c6] at e4
          obtain ⟨μ18, e5, e6⟩ := bdI e4
          rw [zLt_eq] at e6
          exact absurd w (bX12_newRead_l59 _ _ _ _ _ _ (SB.rf _) _ e6 (nFailK (by decide) e5))
theorem nPG_g {μ : gM} {c i : Nat} {v : Int32} (hc : c = 270 ∨ c = 271) : nPG 0 μ (gUp μ c i v) := nPG_o (nPG.rf μ) hc
theorem nWS_g {l : Nat} {μ : gM} {i : Nat} {v : Int32} (h : nWS l μ) : nWS l (gUp μ 270 i v) := by
  have e : ∀ a, a ≠ 270 → gUp μ 270 i v a = μ a := fun a h1 => zUp_ne _ h1
  obtain ⟨b, n, s, h1, h2, h3, h4, h5⟩ := h
  exact ⟨b, n, s, ⟨by rw [e 267 (by decide)]; exact h1.1, h1.2.1, fun i hi => by rw [e 268 (by decide)]; exact h1.2.2 i hi⟩, by rw [e 267 (by decide)]; exact h2, by rw [e 267 (by decide)]; exact h3, h4, by rw [e 267 (by decide)]; exact h5⟩
theorem nN101 {k c l : Nat} {v : Int32} {ξ ζ : gM} (hk : k < 3) (hc : c < 8) (e : fX12_newRead_n101 (nI k) (nI c) ξ = some (v, ζ)) (w : ζ 267 6 = 0) (ws : nWS l ξ) : v = nI c ∧ nTP ζ ∧ nPh ξ + (l : Int) + 1 ≤ nPh ζ ∧ nRN ξ ζ := by
  unfold fX12_newRead_n101 at e
  obtain ⟨x, e1, e2⟩ := bdI e
  rcases nFine e1 with ⟨rfl, cx⟩ | ⟨cx, -⟩
  · rw [if_pos rfl] at e2
    obtain ⟨rfl, rfl⟩ := Prod.mk.inj (Option.some.inj e2)
    exact absurd w cx
  · rw [if_neg cx] at e2
    have e2 := ckI e2
    rw [zLt_eq] at e2
    obtain ⟨μ13, e3, e4⟩ := bdI e2
    obtain ⟨rfl, rfl⟩ := Prod.mk.inj (Option.some.inj e4)
    have ix : (4 : Int32) + ((8 : Int32) * nI k) + nI c = nI (4 + 8 * k + c) := by
      rw [show (8 : Int32) = nI 8 from rfl, pk_mul, show (4 : Int32) = nI 4 from rfl, nI_add, nI_add]
    rw [ix, nI_clamp (by omega)] at e3
    obtain ⟨t, q, -⟩ := nPassW e3 (nWS_g ws)
    have l3 := lX12_pass (LX.rf _) _ e3
    refine ⟨rfl, t, ?_, fun i hi => ?_⟩
    · have : nPh (gUp ξ 270 (4 + 8 * k + c) (ξ 267 10)) = nPh ξ := by
        unfold nPh
        rw [zUp_ne _ (by decide)]
      omega
    · rw [show μ13 270 = _ from l3 270 (by decide), zUp_slot _ (by omega)]
theorem nNew {k l c0 c1 c2 c3 : Nat} {v : Int32} {ξ ζ : gM} (hk : k < 3) (e : fX12_newRead (nI k) ξ = some (v, ζ)) (r : nRI ξ c0 c1 c2 c3) (w : ζ 267 6 = 0) (t : nTP ξ) (ws : nWS l ξ) : ∃ c, ξ 270 k = nI c ∧ c < (if k = 0 then 6 else if k = 1 then 8 else 5) ∧ v = nI c ∧ nTP ζ ∧ nPh ξ + (l : Int) + 3 ≤ nPh ζ ∧ nRN ξ ζ := by
  unfold fX12_newRead at e
  have e := ckI e
  rw [zLt_eq, Int32.zero_add, nI_clamp (by omega)] at e
  obtain ⟨x3, e3, e4⟩ := bdI e
  obtain ⟨c, ec, cm, hx⟩ : ∃ c, ξ 270 k = nI c ∧ c ≤ (if k = 0 then 6 else if k = 1 then 8 else 5) ∧ x3 = nI (if k = 0 then 6 else if k = 1 then 8 else 5) := by
    obtain ⟨⟨r0, r1, r2, r3⟩, b0, b1, b2, b3⟩ := r
    have ck : k = 0 ∨ k = 1 ∨ k = 2 := by omega
    unfold fX12_mostOf at e3
    rcases ck with rfl | rfl | rfl
    · rw [if_pos (show nI 0 = 0 from rfl)] at e3
      exact ⟨c0, r0, b0, (Option.some.inj e3).symm⟩
    · rw [if_neg (show ¬ nI 1 = 0 by decide), if_pos (show nI 1 = 1 from rfl)] at e3
      exact ⟨c1, r1, b1, (Option.some.inj e3).symm⟩
    · rw [if_neg (show ¬ nI 2 = 0 by decide), if_neg (show ¬ nI 2 = 1 by decide)] at e3
      exact ⟨c2, r2, b2, (Option.some.inj e3).symm⟩
  have m8 : (if k = 0 then 6 else if k = 1 then 8 else 5) ≤ 8 := by split; omega; split <;> omega
  rw [ec, hx] at e4
  generalize hM : (if k = 0 then 6 else if k = 1 then 8 else 5) = M at *
  by_cases cc : nI c = nI M
  · rw [if_pos cc] at e4
    obtain ⟨x26, μ27, f1, f2⟩ := bpI e4
    obtain ⟨μ28, f3, f4⟩ := bdI f2
    exact absurd w (bX12_newRead_n27 (SB.rf _) _ f4 (nFailK (by decide) f3))
  · rw [if_neg cc] at e4
    have cM : c < M := by
      rcases Nat.lt_or_ge c M with x | x
      · exact x
      · exact absurd (by rw [show c = M by omega]) cc
    unfold fX12_newRead_n27 at e4
    obtain ⟨x4, f1, f2⟩ := bdI e4
    rcases nFine f1 with ⟨rfl, cx⟩ | ⟨cx, -⟩
    · rw [if_pos rfl] at f2
      obtain ⟨rfl, rfl⟩ := Prod.mk.inj (Option.some.inj f2)
      exact absurd w cx
    · rw [if_neg cx] at f2
      obtain ⟨μ5, f3, f4⟩ := bdI f2
      obtain ⟨x6, μ7, f5, f6⟩ := bpI f4
      obtain ⟨x8, μ9, f7, f8⟩ := bpI f6
      by_cases c8 : x8 = 0
      · rw [if_pos c8] at f8
        obtain ⟨μ23, f9, f10⟩ := bdI f8
        exact absurd w (bX12_newRead_l59 _ _ _ _ _ _ (SB.rf _) _ f10 (nUnl f9))
      · rw [if_neg c8] at f8
        have g := nL59 _ _ _ _ _ _ f8 w
        have w9 : μ9 267 6 = 0 := SB.c (bX12_newRead_n101 (SB.rf _) _ g) w
        obtain ⟨t5, q5, -⟩ := nPassW f3 ws
        obtain ⟨t7, q7, -, -, -, -, -⟩ := nNext f5 t5
        obtain ⟨p9, s9⟩ := nIsN f7
        obtain ⟨t9, q9⟩ := p9.2 t7 w9
        obtain ⟨l', l1, ws9⟩ := s9 c8 t7 w9
        obtain ⟨ev, tz, qz, rn⟩ := nN101 hk (by omega) g w ws9
        have r9 : μ9 270 = ξ 270 := ((lX12_isName (LX.rf _) _ f7 270 (by decide)).trans (lX12_next (LX.rf _) _ f5 270 (by decide))).trans (lX12_pass (LX.rf _) _ f3 270 (by decide))
        exact ⟨c, ec, cM, ev, tz, by omega, fun i hi => by rw [rn i hi, r9]⟩
theorem nStH {v : Int32} {ξ ζ : gM} (e : fX12_statementHere ξ = some (v, ζ)) : nPG 0 ξ ζ ∧ (nTP ξ → ζ 267 6 = 0 → (v = 0 ∧ nWS 4 ζ) ∨ (v = 1 ∧ nWS 4 ζ) ∨ (v = 2 ∧ nWS 5 ζ) ∨ (v = 3 ∧ nWS 6 ζ) ∨ (v = 4 ∧ nWS 5 ζ) ∨ v = -1) := by
  unfold fX12_statementHere at e
  obtain ⟨x1, μ2, e1, e2⟩ := bpI e
  obtain ⟨p1, q1⟩ := nIsW (k := 0) (by decide) rfl e1
  by_cases h1 : x1 = 0
  · rw [if_pos h1] at e2
    obtain ⟨x3, μ4, e3, e4⟩ := bpI e2
    obtain ⟨p3, q3⟩ := nIsW (k := 1) (by decide) rfl e3
    have p3 := p1.tr p3
    by_cases h3 : x3 = 0
    · rw [if_pos h3] at e4
      obtain ⟨x5, μ6, e5, e6⟩ := bpI e4
      obtain ⟨p5, q5⟩ := nIsW (k := 2) (by decide) rfl e5
      have p5' := p3.tr p5
      by_cases h5 : x5 = 0
      · rw [if_pos h5] at e6
        obtain ⟨x7, μ8, e7, e8⟩ := bpI e6
        obtain ⟨p7, q7⟩ := nIsW (k := 7) (by decide) rfl e7
        have p7' := p5'.tr p7
        by_cases h7 : x7 = 0
        · rw [if_pos h7] at e8
          obtain ⟨x9, μ10, e9, e10⟩ := bpI e8
          obtain ⟨p9, q9⟩ := nIsW (k := 11) (by decide) rfl e9
          have p9' := p7'.tr p9
          by_cases h9 : x9 = 0
          · rw [if_pos h9] at e10
            obtain ⟨rfl, rfl⟩ := Prod.mk.inj (Option.some.inj e10)
            exact ⟨p9', fun _ _ => Or.inr (Or.inr (Or.inr (Or.inr (Or.inr rfl))))⟩
          · rw [if_neg h9] at e10
            obtain ⟨rfl, rfl⟩ := Prod.mk.inj (Option.some.inj e10)
            exact ⟨p9', fun t w => Or.inr (Or.inr (Or.inr (Or.inr (Or.inl ⟨rfl, q9 h9 (p7'.2 t (p9.1 w)).1 w⟩))))⟩
        · rw [if_neg h7] at e8
          obtain ⟨rfl, rfl⟩ := Prod.mk.inj (Option.some.inj e8)
          exact ⟨p7', fun t w => Or.inr (Or.inr (Or.inr (Or.inl ⟨rfl, q7 h7 (p5'.2 t (p7.1 w)).1 w⟩)))⟩
      · rw [if_neg h5] at e6
        obtain ⟨rfl, rfl⟩ := Prod.mk.inj (Option.some.inj e6)
        exact ⟨p5', fun t w => Or.inr (Or.inr (Or.inl ⟨rfl, q5 h5 (p3.2 t (p5.1 w)).1 w⟩))⟩
    · rw [if_neg h3] at e4
      obtain ⟨rfl, rfl⟩ := Prod.mk.inj (Option.some.inj e4)
      refine ⟨p3, fun t w => Or.inr (Or.inl ⟨rfl, q3 h3 (p1.2 t ?_).1 w⟩)⟩
      exact (nIsW (k := 1) (by decide) rfl e3).1.1 w
  · rw [if_neg h1] at e2
    obtain ⟨rfl, rfl⟩ := Prod.mk.inj (Option.some.inj e2)
    exact ⟨p1, fun t w => Or.inl ⟨rfl, q1 h1 t w⟩⟩
/-- what a statement adds -/
def nAd (l : Int) (ξ ζ : gM) : Prop := nTP ζ ∧ ∀ c0 c1 c2 c3, nRI ξ c0 c1 c2 c3 → ∃ c0' c1' c2' c3', nRI ζ c0' c1' c2' c3' ∧ l + 7 * (c0' : Int) + 16 * (c2' : Int) + 25 * (c3' : Int) + 21 * (nMc (ζ 270) : Int) ≤ nPh ζ + 7 * (c0 : Int) + 16 * (c2 : Int) + 25 * (c3 : Int) + 21 * (nMc (ξ 270) : Int)
theorem nNames {k c0 c1 c2 c3 : Nat} {ξ ζ : gM} (hk : k < 2) (e : fX12_namesRead (nI k) ξ = some ζ) (w : ζ 267 6 = 0) (t : nTP ξ) (r : nRI ξ c0 c1 c2 c3) (ws : nWS 4 ξ) : nTP ζ ∧ ∃ c0' c1', nRI ζ c0' c1' c2 c3 ∧ nMc (ζ 270) = nMc (ξ 270) ∧ nPh ξ + 7 * (c0' : Int) ≤ nPh ζ + 7 * (c0 : Int) := by
  unfold fX12_namesRead at e
  obtain ⟨x1, μ2, e1, e2⟩ := bpI e
  obtain ⟨x3, e3, e4⟩ := bdI e2
  rcases nFine e3 with ⟨rfl, cx⟩ | ⟨cx, w2⟩
  · rw [if_pos rfl] at e4
    obtain rfl := Option.some.inj e4
    exact absurd w cx
  · rw [if_neg cx, zLt_eq] at e4
    have e4 := ckI (ckI e4)
    rw [zLt_eq, Int32.zero_add, nI_clamp (by omega)] at e4
    obtain rfl := Option.some.inj e4
    obtain ⟨c, ec, cm, -, t2, q2, rn⟩ := nNew (k := k) (by omega) e1 r w2 t ws
    have g0 := nPG_g (μ := μ2) (c := 270) (i := k) (v := μ2 270 k + 1) (Or.inl rfl)
    obtain ⟨t3, q3⟩ := g0.2 t2 w
    obtain ⟨⟨r0, r1, r2, r3⟩, b0, b1, b2, b3⟩ := r
    have ek : μ2 270 k = nI c := by rw [rn k (by omega), ec]
    have eu : ∀ i, i ≠ k → (i < 4 ∨ 28 ≤ i) → gUp μ2 270 k (μ2 270 k + 1) 270 i = ξ 270 i := fun i h1 h2 => by rw [zUp_slot _ h1, rn i h2]
    have es : gUp μ2 270 k (μ2 270 k + 1) 270 k = nI (c + 1) := by rw [zUp_same, ek]; exact nI_1 c
    have mc : nMc (gUp μ2 270 k (μ2 270 k + 1) 270) = nMc (ξ 270) := nMc_cg (fun i h1 h2 => eu i (by omega) (by omega))
    refine ⟨t3, ?_⟩
    have ck : k = 0 ∨ k = 1 := by omega
    rcases ck with rfl | rfl
    · rw [if_pos rfl] at cm
      have e0 : c = c0 := nI_inj (by omega) (by omega) (ec.symm.trans r0)
      subst e0
      exact ⟨c + 1, c1, ⟨⟨es, by rw [eu 1 (by decide) (by omega)]; exact r1, by rw [eu 2 (by decide) (by omega)]; exact r2, by rw [eu 3 (by decide) (by omega)]; exact r3⟩, by omega, b1, b2, b3⟩, mc, by omega⟩
    · rw [if_neg (by decide), if_pos rfl] at cm
      have e0 : c = c1 := nI_inj (by omega) (by omega) (ec.symm.trans r1)
      subst e0
      exact ⟨c0, c + 1, ⟨⟨by rw [eu 0 (by decide) (by omega)]; exact r0, es, by rw [eu 2 (by decide) (by omega)]; exact r2, by rw [eu 3 (by decide) (by omega)]; exact r3⟩, b0, by omega, b2, b3⟩, mc, by omega⟩
/-- a group's last row -/
theorem nG73 {c : Nat} {y2 y3 y4 z0 : Int32} {ξ ζ : gM} (hc : c < 5) (e : fX12_groupRead_n73 (nI c) y2 y3 y4 z0 ξ = some ζ) (w : ζ 267 6 = 0) : nPG 0 ξ ζ ∧ (∀ i, i ≠ 2 → (i < 28 ∨ 48 ≤ i) → ζ 270 i = ξ 270 i) ∧ ζ 270 2 = ξ 270 2 + 1 := by
  unfold fX12_groupRead_n73 at e
  obtain ⟨x, e1, e2⟩ := bdI e
  rcases nFine e1 with ⟨rfl, cx⟩ | ⟨cx, -⟩
  · rw [if_pos rfl] at e2
    obtain rfl := Option.some.inj e2
    exact absurd w cx
  · rw [if_neg cx] at e2
    have e2 := ckI e2
    rw [zLt_eq] at e2
    have e2 := ckI e2
    rw [zLt_eq] at e2
    obtain ⟨x17, -, e3⟩ := bdI e2
    have e3 := ckI e3
    rw [zLt_eq] at e3
    have e3 := ckI e3
    rw [zLt_eq, zLt_eq] at e3
    obtain rfl := Option.some.inj e3
    have j28 : ((28 : Int32) + nI c).toNatClampNeg = 28 + c := by rw [show (28 : Int32) = nI 28 from rfl, nI_add, nI_clamp (by omega)]
    have j33 : ((33 : Int32) + nI c).toNatClampNeg = 33 + c := by rw [show (33 : Int32) = nI 33 from rfl, nI_add, nI_clamp (by omega)]
    have j38 : ((38 : Int32) + nI c).toNatClampNeg = 38 + c := by rw [show (38 : Int32) = nI 38 from rfl, nI_add, nI_clamp (by omega)]
    have j43 : ((43 : Int32) + nI c).toNatClampNeg = 43 + c := by rw [show (43 : Int32) = nI 43 from rfl, nI_add, nI_clamp (by omega)]
    rw [j28, j33, j38, j43]
    refine ⟨nPG_o (nPG_o (nPG_o (nPG_o (nPG_g (Or.inl rfl)) (Or.inl rfl)) (Or.inl rfl)) (Or.inl rfl)) (Or.inl rfl), fun i h1 h2 => ?_, ?_⟩
    · rw [zUp_slot _ h1, zUp_slot _ (by omega), zUp_slot _ (by omega), zUp_slot _ (by omega), zUp_slot _ (by omega)]
    · rw [zUp_same, zUp_slot _ (by omega), zUp_slot _ (by omega), zUp_slot _ (by omega), zUp_slot _ (by omega)]
theorem nG53 {y1 y2 y3 y4 : Int32} {ξ ζ : gM} (e : fX12_groupRead_n53 y1 y2 y3 y4 ξ = some ζ) : ∃ z μ, nPG 0 ξ μ ∧ μ 270 = ξ 270 ∧ fX12_groupRead_n73 y1 y2 y3 y4 z μ = some ζ := by
  unfold fX12_groupRead_n53 at e
  obtain ⟨x10, μ11, e1, e2⟩ := bpI e
  have p1 : nPG 0 ξ μ11 := by
    rcases nTakes (k := 6) (by decide) rfl e1 with ⟨-, q⟩ | ⟨-, q⟩
    · exact q
    · exact q.le (Nat.zero_le _)
  have l1 : μ11 270 = ξ 270 := lX12_takes (LX.rf _) _ e1 270 (by decide)
  by_cases c : x10 = 0
  · rw [if_pos c] at e2
    exact ⟨_, μ11, p1, l1, e2⟩
  · rw [if_neg c] at e2
    obtain ⟨x24, μ25, e3, e4⟩ := bpI e2
    exact ⟨x24, μ25, (p1.tr (nNum e3)).le (Nat.zero_le _), (lX12_number (LX.rf _) _ e3 270 (by decide)).trans l1, e4⟩
theorem nGroup {c0 c1 c2 c3 : Nat} {ξ ζ : gM} (e : fX12_groupRead ξ = some ζ) (w : ζ 267 6 = 0) (t : nTP ξ) (r : nRI ξ c0 c1 c2 c3) (ws : nWS 5 ξ) : nTP ζ ∧ nRI ζ c0 c1 (c2 + 1) c3 ∧ nMc (ζ 270) = nMc (ξ 270) ∧ nPh ξ + 16 ≤ nPh ζ := by
  have st := bX12_groupRead (SB.rf ξ) _ e
  unfold fX12_groupRead at e
  obtain ⟨x1, μ2, e1, e2⟩ := bpI e
  obtain ⟨μ3, e3, e4⟩ := bdI e2
  obtain ⟨x4, μ5, e5, e6⟩ := bpI e4
  obtain ⟨x6, μ7, e7, e8⟩ := bpI e6
  have p3 := nAsks (k := 3) (by decide) rfl e3
  have p5 := nNum e5
  have l3 : μ3 270 = μ2 270 := lX12_asks (LX.rf _) _ e3 270 (by decide)
  have l5 : μ5 270 = μ3 270 := lX12_number (LX.rf _) _ e5 270 (by decide)
  have l7 : μ7 270 = μ5 270 := lX12_takes (LX.rf _) _ e7 270 (by decide)
  have p7 : nPG 0 μ5 μ7 := by
    rcases nTakes (k := 4) (by decide) rfl e7 with ⟨-, q⟩ | ⟨-, q⟩
    · exact q
    · exact q.le (Nat.zero_le _)
  obtain ⟨y3, y4, μ9, p9, l9, e9⟩ : ∃ y3 y4 μ9, nPG 0 μ7 μ9 ∧ μ9 270 = μ7 270 ∧ fX12_groupRead_n53 x1 x4 y3 y4 μ9 = some ζ := by
    by_cases c : x6 = 0
    · rw [if_pos c] at e8
      obtain ⟨x8, μ9, f1, f2⟩ := bpI e8
      refine ⟨_, _, μ9, ?_, lX12_takes (LX.rf _) _ f1 270 (by decide), f2⟩
      rcases nTakes (k := 5) (by decide) rfl f1 with ⟨-, q⟩ | ⟨-, q⟩
      · exact q
      · exact q.le (Nat.zero_le _)
    · rw [if_neg c] at e8
      obtain ⟨x27, μ28, f1, f2⟩ := bpI e8
      exact ⟨_, _, μ28, (nNum f1).le (Nat.zero_le _), lX12_number (LX.rf _) _ f1 270 (by decide), f2⟩
  obtain ⟨z, μ10, p10, l10, e10⟩ := nG53 e9
  have w10 : μ10 267 6 = 0 := SB.c (bX12_groupRead_n73 (SB.rf _) _ e10) w
  have ch := (((p3.tr p5).tr p7).tr p9).tr p10
  have w2 := ch.1 w10
  obtain ⟨c, ec, cm, ev, t2, q2, rn⟩ := nNew (k := 2) (by decide) e1 r w2 t ws
  obtain ⟨t10, q10⟩ := ch.2 t2 w10
  rw [if_neg (by decide), if_neg (by decide)] at cm
  rw [ev] at e10
  obtain ⟨pz, rz, r2⟩ := nG73 cm e10 w
  obtain ⟨tz, qz⟩ := pz.2 t10 w
  have lx : μ10 270 = μ2 270 := by rw [l10, l9, l7, l5, l3]
  have ex : ∀ i, i ≠ 2 → (i < 4 ∨ 48 ≤ i) → ζ 270 i = ξ 270 i := fun i h1 h2 => by rw [rz i h1 (by omega), lx, rn i (by omega)]
  obtain ⟨⟨r0, r1, r2', r3⟩, b0, b1, b2, b3⟩ := r
  have e0 : c = c2 := nI_inj (by omega) (by omega) (ec.symm.trans r2')
  subst e0
  have w5 : wl 3 = 5 := by decide
  refine ⟨tz, ⟨⟨by rw [ex 0 (by decide) (by omega)]; exact r0, by rw [ex 1 (by decide) (by omega)]; exact r1, by rw [r2, lx, rn 2 (by omega), r2']; exact nI_1 c, by rw [ex 3 (by decide) (by omega)]; exact r3⟩, b0, b1, by omega, b3⟩, nMc_cg (fun i h1 h2 => ex i (by omega) (by omega)), ?_⟩
  rw [w5] at q10
  omega
