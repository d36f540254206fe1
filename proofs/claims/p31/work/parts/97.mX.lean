/-! all events; what plan() answers, and the fault -/
theorem plan_l26_bad {m : Nat} {y : Int32} {ξ : gM} (hb : ξ 267 6 ≠ 0) : fX12_plan_l26 (m + 1) y ξ = fX12_plan_n51 y ξ := by
  rw [fX12_plan_l26, mFine0 hb, zBd_some, if_pos rfl]
theorem pPlan_l {b : Nat → Nat} {n : Nat} : ∀ (m c s : Nat) (g : Int) (from' : Int32) (μ ξ : gM), c ≤ 20 → 22 < c + m → SIM b n s g μ ξ → NET μ ξ → PD c μ ξ → FRM c from' ξ → ∃ v c' μ' ξ', fX6_read_l19 m from' (nI c) μ = some (v, μ') ∧ fX12_plan_l26 m (nI c) ξ = fX12_plan_n51 (nI c') ξ' ∧ BQ b n c' μ ξ v μ' ξ' := by
  intro m
  induction m with
  | zero => intro c s g from' μ ξ hc gm; exact absurd gm (by omega)
  | succ m ih =>
    intro c s g from' μ ξ hc gm h nt pd fr
    obtain ⟨m, rfl⟩ : ∃ m', m = m' + 1 := ⟨m - 1, by omega⟩
    obtain ⟨v, w, ξ1, e1, e2, f1, h1, p1, cs⟩ := pOver h
    have mf1 : MF pF ξ ξ1 := f1.tr (MF.rf (P := pF) _) (fun i w => by unfold p4 at w; unfold pF; omega) (fun _ w => w)
    have pd1 : PD c μ ξ1 := pd.cm (CF.rf μ) mf1
    have nt1 : NET μ ξ1 := nt.xy (CF.rf μ).xp mf1.yp
    have fr1 : FRM c from' ξ1 := by
      unfold FRM at *
      rw [mf1.1 271 (by decide)]
      exact fr
    rw [fX6_read_l19, fX12_plan_l26, if_neg (show ¬ (20 : Int32) < nI c from fun w => by have := Int32.lt_iff_toInt_lt.mp w; rw [tN (by omega)] at this; have z : (20 : Int32).toInt = 20 := rfl; omega), e1, zBd_some, mFine1 h.2.2.2.2.2.2, zBd_some, if_neg one_n0, e2, zBp_some]
    rcases cs with ⟨c1, rfl, rfl⟩ | ⟨c1, rfl, rfl⟩
    · rw [if_neg one_n0, if_neg one_n0]
      exact ⟨1, c, μ, ξ1, rfl, rfl, (CF.rf μ).xp, mf1.yp, Or.inl ⟨rfl, ⟨s, g, h1⟩, pd1⟩⟩
    · rw [if_pos rfl, if_pos rfl]
      obtain ⟨v, a, μ2, ξ2, w1, w2, ⟨x2, y2, bq⟩, w4⟩ := pAtEv hc h1 nt1 pd1 fr1
      have w1' := w1 (fun x4 μ9 => zLt (nI c + (1 : Int32)) (fun x10 => fX6_read_l19 (m + 1) x4 x10 μ9))
      unfold cAll at w1'
      rw [w1', w2, zBd_some, zLt_eq, zLt_eq, show nI c + (1 : Int32) = nI (c + 1) from nI_1 c]
      rcases bq with ⟨rfl, ⟨s2, g2, sm2⟩, pd2⟩ | ⟨rfl, fl⟩
      · obtain ⟨c19, fr2⟩ := w4 rfl
        rw [if_neg one_n0]
        obtain ⟨v, c', μ', ξ', r1, r2, r3, r4, r5⟩ := ih (c + 1) s2 g2 a μ2 ξ2 (by omega) (by omega) sm2 (nt1.xy x2 y2) pd2 fr2
        exact ⟨v, c', μ', ξ', r1, r2, x2.tr r3, (mf1.yp.tr y2).tr r4, r5⟩
      · rw [if_pos rfl, plan_l26_bad fl.2.2.1]
        exact ⟨0, c + 1, μ2, ξ2, rfl, rfl, x2, mf1.yp.tr y2, Or.inr ⟨rfl, fl⟩⟩
def PlanQ (c : Nat) (μ ξ : gM) (v : Int32) (μ' ξ' : gM) : Prop := (∀ a, a ≠ 1 → a ≠ 32 → a ≠ 33 → μ' a = μ a) ∧ μ' 1 2 = μ 1 2 ∧ (∀ a, a ≠ 267 → a ≠ 271 → ξ' a = ξ a) ∧ (∀ i, i ≠ 0 → i ≠ 2 → i ≠ 3 → ¬ pF i → ξ' 267 i = ξ 267 i) ∧ ξ' 267 2 = 0 ∧ ((v = 1 ∧ ξ' 267 6 = 0 ∧ PD c μ' ξ' ∧ μ' 1 7 = 0 ∧ μ' 1 8 = -1) ∨ (v = 0 ∧ ξ' 267 6 ≠ 0 ∧ μ' 1 7 = ξ' 267 6 ∧ μ' 1 8 = ξ' 267 7))
theorem pPlanRead {μ ξ : gM} (hb : Base μ) (ht : TAPE μ) (ho : ∀ k, k < 21 → μ 3 k = gOwn k) (h8 : ξ 268 = μ 268) (h2 : ξ 267 2 = μ 1 2) (h15 : ξ 267 15 ≠ 0) (nt : NET μ ξ) : ∃ v c μ' ξ', fX6_read μ = some (v, μ') ∧ fX12_plan ξ = fX12_plan_n51 (nI c) ξ' ∧ PlanQ c μ ξ v μ' ξ' := by
  generalize e1' : gUp μ 32 0 (0 : Int32) = μ1
  have c4 : ∀ a, a ≠ 32 → μ1 a = μ a := fun a ha => by rw [← e1', zUp_ne _ ha]
  have hc1 : CT (tb μ) (μ 1 2).toInt.toNat μ1 := by
    have := tapeC hb ht
    unfold CT at *
    rw [c4 1 (by decide), c4 2 (by decide)]
    exact this
  obtain ⟨s, μ2, o0, o1, o2, o3, o4, o5⟩ := cOpen hc1
  unfold fX6_read fX12_plan
  rw [zLt_eq, zLt_eq, e1', o0, zBd_some]
  obtain ⟨ζ, b0, b1, b2, b3, b4, b5, b6, b7, b8, b9⟩ := mBegins (ξ := gUp ξ 267 0 0)
  rw [if_neg (show ¬ gUp ξ 267 0 0 267 15 = 0 by rw [zUp_slot _ (by decide)]; exact h15), b0, zBd_some]
  have x3 : ζ 267 3 = μ 1 2 := by rw [b4, zUp_slot _ (by decide), h2]
  have x8 : ζ 268 = μ 268 := by rw [b1 268 (by decide), zUp_ne _ (by decide), h8]
  have xo : ∀ a, a ≠ 267 → ζ a = ξ a := fun a h1 => by rw [b1 a h1, zUp_ne _ h1]
  have xi : ∀ i, i ≠ 0 → i ≠ 2 → i ≠ 3 → ¬ pF i → ζ 267 i = ξ 267 i := fun i h0 h1 h2 hf => by rw [b2 i h1 h2 hf, zUp_slot _ h0]
  have hm : MT (tb μ) (μ 1 2).toInt.toNat ζ := tapeM hb ht x8 x3
  have hc2 : CT (tb μ) (μ 1 2).toInt.toNat μ2 := by
    unfold CT at *
    rw [o3.2, o3.1 2 (by decide)]
    exact hc1
  have sim : SIM (tb μ) (μ 1 2).toInt.toNat s (-1) μ2 ζ := by
    refine ⟨hc2, o2, ⟨fun k hk => by rw [o3.1 3 (by decide), c4 3 (by decide)]; exact ho k hk, o4, o5⟩, hm, ⟨0, by rw [b5]; rfl, Nat.zero_le _, o1, by rw [b6]; decide⟩, ?_, b7⟩
    rw [b6]
    have e1 : (-1 : Int32).toInt = -1 := rfl
    omega
  have pd : PD 0 μ2 ζ := ⟨by decide, by rw [o3.1 32 (by decide), ← e1', zUp_same]; rfl, fun i hi => absurd hi (by omega), fun k hk => absurd hk (by omega), fun k hk => absurd hk (by omega)⟩
  have nt2 : NET μ2 ζ := nt.fr (fun a h1 h2 => by rw [o3.1 a (by omega), c4 a (by omega)]) (xo 269 (by decide))
  obtain ⟨v, c, μ', ξ', r1, r2, r3, r4, r5⟩ := pPlan_l 100000 0 s (-1) (0 : Int32) μ2 ζ (by decide) (by decide) sim nt2 pd ⟨by decide, fun _ => rfl, fun w => absurd w (by omega)⟩
  refine ⟨v, c, μ', ξ', r1, r2, fun a h1 h2 h3 => by rw [r3.1 a h1 h2 h3, o3.1 a h1, c4 a h2], by rw [r3.2, o3.2, c4 1 (by decide)], fun a h1 h2 => by rw [r4.1 a h1 h2, xo a h1], fun i h0 h1 h2 hf => by rw [r4.2 i hf, xi i h0 h1 h2 hf], by rw [r4.2 2 (by unfold pF; decide), b3], ?_⟩
  rcases r5 with ⟨rfl, ⟨s', g', sm⟩, pd'⟩ | ⟨rfl, f1, f2, f3, f4⟩
  · exact Or.inl ⟨rfl, sm.2.2.2.2.2.2, pd', sm.2.2.1.2.1, sm.2.2.1.2.2⟩
  · exact Or.inr ⟨rfl, f3, f1, f2⟩
/-! what is kept -/
theorem putsI {y1 : Int32} : ∀ (m : Nat) (y2 : Int32) (μ μ' : gM), fX12_putsTo_l2 m y1 y2 μ = some μ' → ∀ a, a ≠ 273 → μ' a = μ a := by
  intro m
  induction m with
  | zero => intro y2 μ μ' h; rw [fX12_putsTo_l2] at h; cases h
  | succ m ih =>
    intro y2 μ μ' h a ha
    rw [fX12_putsTo_l2] at h
    by_cases c : (490 : Int32) ≤ y2
    · rw [if_pos c] at h
      obtain rfl := Option.some.inj h
      rfl
    · rw [if_neg c] at h
      have h := ckI (ckI h)
      rw [zLt_eq, zLt_eq] at h
      rw [ih _ _ _ h a ha, zUp_ne _ ha]
theorem keep52I {μ μ' : gM} (h : fX12_keepsAct_n52 μ = some μ') : (∀ a, a ≠ 273 → a ≠ 267 → μ' a = μ a) ∧ ∀ i, i ≠ 20 → μ' 267 i = μ 267 i := by
  unfold fX12_keepsAct_n52 fX12_putsTo at h
  obtain ⟨μ1, e, h⟩ := bdI h
  rw [zLt_eq] at h
  obtain rfl := Option.some.inj h
  have f := putsI _ _ _ _ e
  exact ⟨fun a h1 h2 => by rw [zUp_ne _ h2, f a h1], fun i hi => by rw [zUp_slot _ hi, f 267 (by decide)]⟩
theorem keep13I : ∀ (m : Nat) (y1 : Int32) (μ μ' : gM), fX12_keepsAct_l13 m y1 μ = some μ' → (∀ a, a ≠ 273 → a ≠ 267 → μ' a = μ a) ∧ ∀ i, i ≠ 20 → μ' 267 i = μ 267 i := by
  intro m
  induction m with
  | zero => intro y2 μ μ' h; rw [fX12_keepsAct_l13] at h; cases h
  | succ m ih =>
    intro y2 μ μ' h
    rw [fX12_keepsAct_l13] at h
    by_cases c : (5880 : Int32) ≤ y2
    · rw [if_pos c, zLt_eq] at h
      obtain ⟨f1, f2⟩ := keep52I h
      exact ⟨fun a h1 h2 => by rw [f1 a h1 h2, zUp_ne _ h2], fun i hi => by rw [f2 i hi, zUp_slot _ hi]⟩
    · rw [if_neg c] at h
      have h := ckI (ckI h)
      rw [zLt_eq, zLt_eq] at h
      obtain ⟨f1, f2⟩ := ih _ _ _ h
      exact ⟨fun a h1 h2 => by rw [f1 a h1 h2, zUp_ne _ h1], fun i hi => by rw [f2 i hi, zUp_ne _ (by decide)]⟩
theorem keepI {μ μ' : gM} (h : fX12_keepsAct μ = some μ') : (∀ a, a ≠ 273 → a ≠ 267 → μ' a = μ a) ∧ ∀ i, i ≠ 20 → μ' 267 i = μ 267 i := by
  unfold fX12_keepsAct at h
  by_cases c : μ 267 20 = 12
  · rw [if_pos c] at h; exact keep13I _ _ _ _ h
  · rw [if_neg c] at h; exact keep52I h
theorem l74I {y1 : Int32} : ∀ (m : Nat) (y2 : Int32) (μ : gM) (r : Int32 × gM), fX12_plan_l74 m y1 y2 μ = some r → r.1 = y1 ∧ ∀ a, a ≠ 272 → r.2 a = μ a := by
  intro m
  induction m with
  | zero => intro y2 μ r h; rw [fX12_plan_l74] at h; cases h
  | succ m ih =>
    intro y2 μ r h
    rw [fX12_plan_l74] at h
    by_cases c : ((5 : Int32) * y1) ≤ y2
    · rw [if_pos c] at h
      obtain rfl := Option.some.inj h
      exact ⟨rfl, fun _ _ => rfl⟩
    · rw [if_neg c] at h
      have h := ckI (ckI h)
      rw [zLt_eq, zLt_eq] at h
      obtain ⟨f1, f2⟩ := ih _ _ _ h
      exact ⟨f1, fun a ha => by rw [f2 a ha, zUp_ne _ ha]⟩
theorem isReadE {ξ : gM} : ∃ ζ, fX12_isRead ξ = some (if ξ 267 6 = 0 then 1 else 0, ζ) ∧ (∀ a, a ≠ 267 → ζ a = ξ a) ∧ ζ 267 8 = ξ 267 6 ∧ (ζ 267 9 = if ξ 267 6 = 0 then -1 else ξ 267 7) ∧ ∀ i, i ≠ 8 → i ≠ 9 → ζ 267 i = ξ 267 i := by
  unfold fX12_isRead fX12_isRead_n24
  rw [zLt_eq, zLt_eq, zLt_eq]
  by_cases c : ξ 267 6 = 0
  · have c1 : gUp ξ 267 8 (ξ 267 6) 267 6 = 0 := by rw [zUp_slot _ (by decide)]; exact c
    rw [if_pos c1, if_pos (show gUp (gUp ξ 267 8 (ξ 267 6)) 267 9 (-1) 267 6 = 0 by rw [zUp_slot _ (by decide)]; exact c1), if_pos c, if_pos c]
    exact ⟨_, rfl, fun a ha => by rw [zUp_ne _ ha, zUp_ne _ ha], by rw [zUp_slot _ (by decide), zUp_same], zUp_same _ _ _ _, fun i h1 h2 => by rw [zUp_slot _ h2, zUp_slot _ h1]⟩
  · have c1 : ¬ gUp ξ 267 8 (ξ 267 6) 267 6 = 0 := by rw [zUp_slot _ (by decide)]; exact c
    rw [if_neg c1, if_neg (show ¬ gUp (gUp ξ 267 8 (ξ 267 6)) 267 9 (gUp ξ 267 8 (ξ 267 6) 267 7) 267 6 = 0 by rw [zUp_slot _ (by decide)]; exact c1), if_neg c, if_neg c]
    exact ⟨_, rfl, fun a ha => by rw [zUp_ne _ ha, zUp_ne _ ha], by rw [zUp_slot _ (by decide), zUp_same], by rw [zUp_same, zUp_slot _ (by decide)], fun i h1 h2 => by rw [zUp_slot _ h2, zUp_slot _ h1]⟩
theorem stepPlanN {μ : gM} (h : Base μ) (ht : TAPE μ) (ho : ∀ k, k < 21 → μ 3 k = gOwn k) (nt : NET μ μ) (th : THERE μ) (ft : FAULT μ) : ∃ (v : Int32) (μ1 μ2 : gM), fX11_plan μ = some (v, μ1) ∧ fX12_plan μ1 = some (v, μ2) ∧ Base μ2 ∧ SameP μ μ2 ∧ (μ2 1 2).toInt = 0 ∧ FAULT μ2 := by
  obtain ⟨v, v2, μ1, μ2, e1, e2, hB, hs, hl⟩ := stepPlan h
  suffices q : v = v2 ∧ FAULT μ2 by
    obtain ⟨rfl, q⟩ := q
    exact ⟨v, μ1, μ2, e1, e2, hB, hs, hl, q⟩
  have hx : ∀ a, 267 ≤ a → μ1 a = μ a := by
    obtain ⟨⟨v', μ1'⟩, e1', h1⟩ := tX11_plan h.1.weak
    have h1 : J false 0 μ μ1' := h1
    rw [e1] at e1'
    obtain ⟨rfl, rfl⟩ := Prod.mk.inj (Option.some.inj e1')
    exact fun a ha => h1.2.2.2 a (Or.inr (Or.inl ha))
  have e1' := e1
  have e2' := e2
  unfold fX11_plan at e1'
  by_cases c0 : μ 4 0 = 0
  · rw [if_pos c0, zLt_eq] at e1'
    obtain ⟨rfl, rfl⟩ := Prod.mk.inj (Option.some.inj e1')
    unfold fX12_plan at e2'
    rw [zLt_eq, if_pos (show gUp (gUp μ 1 2 0) 267 0 0 267 15 = 0 by rw [zUp_slot _ (by decide), zUp_ne _ (by decide), ← th.1]; exact c0), zLt_eq] at e2'
    obtain ⟨rfl, rfl⟩ := Prod.mk.inj (Option.some.inj e2')
    refine ⟨rfl, ?_⟩
    unfold FAULT at *
    rw [zUp_ne _ (by decide), zUp_ne _ (by decide), zUp_slot _ (by decide), zUp_slot _ (by decide), zUp_slot _ (by decide), zUp_slot _ (by decide), zUp_slot _ (by decide), zUp_slot _ (by decide), zUp_ne _ (by decide)]
    exact ft
  · rw [if_neg c0] at e1'
    obtain ⟨w, c, μ', ξ', r1, r2, f1, f2, f3, f4, f5, cs⟩ := pPlanRead (ξ := μ1) h ht ho (hx 268 (by decide)) (by rw [hx 267 (by decide)]; exact h.2.2.symm) (by rw [hx 267 (by decide), ← th.1]; exact c0) (nt.fr (fun _ _ _ => rfl) (hx 269 (by decide)))
    rw [r1, zBp_some, zLt_eq] at e1'
    rw [r2] at e2'
    unfold fX12_plan_n51 at e2'
    obtain ⟨ζ, z0, z1, z8, z9, zi⟩ := isReadE (ξ := ξ')
    rw [z0, zBp_some] at e2'
    rcases cs with ⟨rfl, g6, pd, g7, g8⟩ | ⟨rfl, g6, g7, g8⟩
    · rw [if_pos g6, if_neg one_n0] at e2'
      rw [if_neg one_n0] at e1'
      obtain ⟨μ4, s1, e1'⟩ := bdI e1'
      obtain ⟨μ5, s2, e1'⟩ := bdI e1'
      obtain ⟨x6, s3, e1'⟩ := bdI e1'
      rw [zLt_eq] at e1'
      obtain ⟨rfl, rfl⟩ := Prod.mk.inj (Option.some.inj e1')
      obtain ⟨ξ6, k1, e2'⟩ := bdI e2'
      rw [zLt_eq] at e2'
      obtain ⟨l1, l2⟩ := l74I _ _ _ _ e2'
      have l1 : v2 = nI c := l1
      have l2 : ∀ a, a ≠ 272 → μ2 a = gUp ξ6 272 8 (nI c) a := l2
      obtain ⟨k2, k3⟩ := keepI k1
      obtain ⟨μ4', s1', sf⟩ := fr4 ⟨μ4, s1⟩
      rw [s1] at s1'
      obtain rfl := Option.some.inj s1'
      unfold fX5_copyFrom at s2
      rw [zLt_eq, zLt_eq] at s2
      obtain rfl := Option.some.inj s2
      refine ⟨?_, ?_⟩
      · rw [l1, zUp_ne _ (by decide), zCp_ne _ (by decide), zUp_same, sf 32 (by decide), zUp_ne _ (by decide)]
        exact pd.2.1
      · have q7 : μ2 267 8 = 0 := by rw [l2 267 (by decide), zUp_ne _ (by decide), k3 8 (by decide), z8]; exact g6
        have q9 : μ2 267 9 = -1 := by rw [l2 267 (by decide), zUp_ne _ (by decide), k3 9 (by decide), z9, if_pos g6]
        have m1 : μ2 1 = gUp μ' 1 2 0 1 := by
          rw [l2 1 (by decide), zUp_ne _ (by decide), k2 1 (by decide) (by decide), z1 1 (by decide), f3 1 (by decide) (by decide), zUp_ne _ (by decide), zCp_ne _ (by decide), zUp_ne _ (by decide), sf 1 (by decide)]
        unfold FAULT
        rw [q7, q9, m1, zUp_slot _ (by decide), zUp_slot _ (by decide)]
        exact ⟨g7, g8⟩
    · rw [if_neg g6, if_pos rfl] at e2'
      rw [if_pos rfl] at e1'
      obtain ⟨rfl, rfl⟩ := Prod.mk.inj (Option.some.inj e1')
      obtain ⟨rfl, rfl⟩ := Prod.mk.inj (Option.some.inj e2')
      refine ⟨rfl, ?_⟩
      unfold FAULT
      rw [z8, z9, if_neg g6, z1 1 (by decide), f3 1 (by decide) (by decide), zUp_slot _ (by decide), zUp_slot _ (by decide)]
      exact ⟨g7, g8⟩
