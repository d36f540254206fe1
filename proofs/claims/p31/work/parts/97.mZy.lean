/-! flaps, letters, under, needs, least -/
theorem cSpan {a : Int32} {μ ξ : gM} (tk : μ 34 0 = ξ 272 0) (tb : 0 ≤ tkI ξ ∧ tkI ξ ≤ 9999) : fX11_isSpan a μ = some (if (1 ≤ a.toInt ∧ a.toInt ≤ 500) ∧ tkI ξ + a.toInt ≤ 9999 then 1 else 0) := by
  have z1 : (1 : Int32).toInt = 1 := rfl
  have z5 : (500 : Int32).toInt = 500 := rfl
  unfold fX11_isSpan
  by_cases c : 1 ≤ a.toInt ∧ a.toInt ≤ 500
  · obtain ⟨N, n1, n2, rfl⟩ := spanG (M := 500) (by decide) (by decide) c
    rw [if_neg (show ¬ nI N < 1 from fun w => by have := Int32.lt_iff_toInt_lt.mp w; omega), if_neg (show ¬ (500 : Int32) < nI N from fun w => by have := Int32.lt_iff_toInt_lt.mp w; omega), withG tk, goG tb (by omega), zBd_some]
    by_cases d : tkI ξ + (N : Int) ≤ 9999
    · rw [if_pos d, if_neg one_n0, if_pos ⟨c, by rw [tN (by omega)]; exact d⟩]
    · rw [if_neg d, if_pos rfl, if_neg (fun w => d (by have := w.2; rw [tN (by omega)] at this; exact this))]
  · rw [if_neg (show ¬ ((1 ≤ a.toInt ∧ a.toInt ≤ 500) ∧ tkI ξ + a.toInt ≤ 9999) from fun w => c w.1)]
    by_cases c0 : a < 1
    · rw [if_pos c0]
    · have c0' : ¬ a.toInt < (1 : Int32).toInt := fun w => c0 (Int32.lt_iff_toInt_lt.mpr w)
      rw [if_neg c0, if_pos (show (500 : Int32) < a from Int32.lt_iff_toInt_lt.mpr (by omega))]
theorem mSpan {α : Type} {a : Int32} {ξ : gM} {A B : Option α} (tb : 0 ≤ tkI ξ ∧ tkI ξ ≤ 9999) : zBd (fX12_isIn (a).toInt64 (1 : Int64) (500 : Int64) ξ) (fun x3 => (if x3 = 0 then A else zBd (fX12_canGo a ξ) (fun x4 => (if x4 = 0 then A else B)))) = if (1 ≤ a.toInt ∧ a.toInt ≤ 500) ∧ tkI ξ + a.toInt ≤ 9999 then B else A := by
  rw [mIn32 _ (y := 1) (z := 500) rfl rfl, zBd_some]
  by_cases c : 1 ≤ a.toInt ∧ a.toInt ≤ 500
  · obtain ⟨N, n1, n2, rfl⟩ := spanG (M := 500) (by decide) (by decide) c
    rw [if_pos c, if_neg one_n0, goG tb (by omega), zBd_some]
    by_cases d : tkI ξ + (N : Int) ≤ 9999
    · rw [if_pos d, if_neg one_n0, if_pos ⟨c, by rw [tN (by omega)]; exact d⟩]
    · rw [if_neg d, if_pos rfl, if_neg (fun w => d (by have := w.2; rw [tN (by omega)] at this; exact this))]
  · rw [if_neg c, if_pos rfl, if_neg (fun w => c w.1)]
/-- flaps -/
theorem pFlapsV {a1 a2 : Int32} {μ ξ : gM} (h : LIVE μ ξ) : ∃ v μ' ξ', fX11_flaps a1 a2 μ = some (v, μ') ∧ fX12_flaps a1 a2 ξ = some (v, ξ') := by
  have l0 := h.u0
  unfold fX11_flaps fX12_flaps
  rw [zLt_eq]
  generalize gUp ξ 267 0 0 = ζ at l0 ⊢
  obtain ⟨cn, cl, cg, ct, nc⟩ := l0.nc
  have b5 := nc.1.2.2.1
  have tb := l0.gd.tb
  rcases groupG (a1 := a1) nc with ⟨g, hg, rfl, g1, g2⟩ | ⟨g1, g2⟩
  · rw [g1, g2, zBd_some, zBd_some, if_neg one_n0, if_neg one_n0, mSpan tb, cSpan l0.tick tb, zBd_some]
    by_cases c : (1 ≤ a2.toInt ∧ a2.toInt ≤ 500) ∧ tkI ζ + a2.toInt ≤ 9999
    · obtain ⟨N, n1, n2, rfl⟩ := spanG (M := 500) (by decide) (by decide) c.1
      rw [if_pos c, if_pos c, if_neg one_n0]
      obtain ⟨ζ1, p1, p2, p3⟩ := mToP (ξ := ζ)
      obtain ⟨n, μ1, μ2, ξ2, o1, o2, o3, o4, o5, o6⟩ := pOpenRun (N := N) (l0.gd.to (fun _ _ => rfl) (p2 269 (by decide)) (fun i _ => by rw [p2 272 (by decide)])) (nc.fr rfl rfl (p2 269 (by decide))) hg (by omega)
      obtain ⟨cc, x, u⟩ := o4.cg
      obtain ⟨c0, -, grs⟩ := l0.gd.ctx
      have t0 : μ 42 g = ζ 272 (140 + g) := (grs g (by omega)).2.2.2
      have t2 : μ2 257 g = ξ2 272 (140 + g) := u.2.2.2
      have gi : gIn (nI g) 5 = true := gI (by omega) (by decide)
      have g4 : gIn ((140 : Int32) + nI g) 490 = true := ig (x := 140) (b := 140) (by omega) (by decide) rfl
      obtain ⟨ξ3, q1, -⟩ := mFromP (v := ξ2 272 (140 + g) - ζ 272 (140 + g)) (ξ := ξ2)
      unfold fX3_takesIn
      rw [o1, zBd_some, o2, zBd_some, ckT gi, ckT gi, nI_clamp (by omega), zBp_some, p1, zBd_some, ckT g4, ix (x := 140) (b := 140) (by omega) rfl, zLt_eq, o3, zBd_some, ckT g4, p2 272 (by decide), q1, zBp_some, o5 42 (by decide), t0, t2]
      exact ⟨_, _, _, rfl, rfl⟩
    · rw [if_neg c, if_neg c, if_pos rfl]
      exact ⟨_, _, _, rfl, rfl⟩
  · rw [g1, g2, zBd_some, zBd_some, if_pos rfl, if_pos rfl]
    exact ⟨_, _, _, rfl, rfl⟩
/-- all groups -/
theorem pOpenAll {cn cl cg ct : Nat} {μ ξ : gM} (gd : GD 34 μ ξ) (nc : NC μ ξ cn cl cg ct) : ∃ n c μ1, fX3_openAll μ = some μ1 ∧ RS 249 n True c cn cl cg ct μ1 ξ ∧ ∀ a, a < 249 → μ1 a = μ a := by
  obtain ⟨⟨c, n, sr, pln, nx, px⟩, tb⟩ := gd
  have b5 := nc.1.2.2.1
  obtain ⟨μa, e, f1, f2⟩ := cCopy (p := 249) (q := 34) (μ := μ) (by omega)
  have eA : fX10_runAllGroups 249 μa = some (gUp (gUp μa 263 2 0) 263 3 (nI cg - 1)) := by
    unfold fX10_runAllGroups
    rw [zLt_eq, zLt_eq, zUp_ne (a := 249 + 14) (b := 5) _ (by decide), f1 5 (by omega), nc.2.1.2.2.1]
  generalize eκ : gUp (gUp μa 263 2 0) 263 3 (nI cg - 1) = κ at *
  have kA : ∀ a, a ≠ 263 → κ a = μa a := fun a ha => by rw [← eκ, zUp_ne _ ha, zUp_ne _ ha]
  have rgA : RNG 249 cg κ := ⟨by rw [show 249 + 14 = 263 from rfl, ← eκ, zUp_slot _ (by decide), zUp_same]; rfl, by
    rw [show 249 + 14 = 263 from rfl, ← eκ, zUp_same]
    exact (iS (tN (m := cg) (by omega)) (show (1 : Int32).toInt = 1 from rfl) (by omega) (by omega)).trans rfl⟩
  have hr : ∀ j i, INR j i → κ (249 + j) i = μ (34 + j) i := fun j i hj => by rw [kA _ (by unfold INR at hj; omega)]; exact f2 j i hj
  have hA : ∀ a, a < 249 → κ a = μ a := fun a ha => by rw [kA a (by omega), f1 a (by omega)]
  unfold fX3_openAll
  rw [e, zBd_some, eA, zBd_some]
  exact ⟨n, κ (249 + 14) 4 - ξ 267 22, κ, rfl, ⟨sr.cp id (fun a h1 h2 => hA a (by omega)) rfl hr (fun _ _ => rfl) (fun _ => addSub _ _), nc.fr (hA 4 (by decide)) (hA 5 (by decide)) rfl, pln.cp rfl hr (fun _ _ => rfl), rgA, nx, px.cp pln.1 hr (fun _ _ => rfl)⟩, hA⟩
theorem pLettersV {a1 : Int32} {μ ξ : gM} (h : LIVE μ ξ) (t1 : μ 4 0 = 1) (t2 : ξ 267 15 = 1) : ∃ v μ' ξ', fX11_letters a1 μ = some (v, μ') ∧ fX12_letters a1 ξ = some (v, ξ') := by
  have l0 := h.u0
  have t2' : gUp ξ 267 0 0 267 15 = 1 := by rw [zUp_slot _ (by decide)]; exact t2
  unfold fX11_letters fX12_letters
  rw [zLt_eq]
  generalize gUp ξ 267 0 0 = ζ at l0 t2' ⊢
  obtain ⟨cn, cl, cg, ct, nc⟩ := l0.nc
  have tb := l0.gd.tb
  rw [if_neg (show ¬ μ 4 0 = 0 by rw [t1]; decide), if_neg (show ¬ ζ 267 15 = 0 by rw [t2']; decide), mSpan tb, cSpan l0.tick tb, zBd_some]
  by_cases c : (1 ≤ a1.toInt ∧ a1.toInt ≤ 500) ∧ tkI ζ + a1.toInt ≤ 9999
  · obtain ⟨N, n1, n2, rfl⟩ := spanG (M := 500) (by decide) (by decide) c.1
    rw [if_pos c, if_pos c, if_neg one_n0]
    obtain ⟨ζ1, p1, p2, p3⟩ := mToP (ξ := ζ)
    have gd1 := l0.gd.to (μ' := μ) (ξ' := ζ1) (fun _ _ => rfl) (p2 269 (by decide)) (fun i _ => by rw [p2 272 (by decide)])
    obtain ⟨n, c', μ1, o1, rs, o2⟩ := pOpenAll gd1 (nc.fr rfl rfl (p2 269 (by decide)))
    have tb1 := gd1.tb
    obtain ⟨μ2, ξ2, e1, e2, rs2, tf, rf, -⟩ := RS.run (s := 249) (by decide) (N := N) (by omega) N 100000 0 μ1 ζ1 (by omega) (by omega) rs tb1.1 (by omega)
    have e1' : fX10_run 249 (nI N) μ1 = some μ2 := by unfold fX10_run; exact e1
    have e2' : fX12_goes (nI N) ζ1 = some ξ2 := by unfold fX12_goes; exact (mGoesL N 100000 N 0 ζ1 (by omega) (by omega) (by omega)).trans e2
    obtain ⟨c0, x0, -⟩ := l0.gd.ctx
    have s0 : μ 34 6 = ζ 272 5 := (x0.2.2.2.2.2 trivial).2.1
    have s2 : μ2 249 6 = ξ2 272 5 := (rs2.1.1.2.2.2.2.2 trivial).2.1
    have s3 : μ2 34 = μ 34 := (tf.lt 34 (by decide)).trans (o2 34 (by decide))
    obtain ⟨ξ3, q1, -⟩ := mFromP (v := ξ2 272 5 - ζ 272 5) (ξ := ξ2)
    unfold fX3_sentIn
    rw [o1, zBd_some, e1', zBd_some, zBp_some, p1, zBd_some, zLt_eq, e2', zBd_some, p2 272 (by decide), q1, zBp_some, s3, s0, s2]
    exact ⟨_, _, _, rfl, rfl⟩
  · rw [if_neg c, if_neg c, if_pos rfl]
    exact ⟨_, _, _, rfl, rfl⟩
/-- who would hold with these links cut: the class's answer is the reference's -/
theorem pHwc {g k cn cl cg ct : Nat} {v : Int32} {μ ξ : gM} (gd : GD 34 μ ξ) (nc : NC μ ξ cn cl cg ct) (hg : g < cg) (hk : k < cn) : ∃ x μ' ξ', fX3_holderWithCuts (nI g) (nI k) v μ = some (x, μ') ∧ fX12_goes 300 (gUp ξ 272 2 v) = some ξ' ∧ fX12_holderOf (nI g) (nI k) ξ' = some x ∧ (∀ a, a < 249 → μ' a = μ a) ∧ RF (gUp ξ 272 2 v) ξ' := by
  have b5 := nc.1.2.2.1
  have tb := gd.tb
  obtain ⟨n, μ1, e1, p, f⟩ := pOpen gd nc hg
  obtain ⟨μ2, e2, p2, t2⟩ := p.cuts (v := v) (by decide)
  have tk : tkI (gUp ξ 272 2 v) = tkI ξ := by unfold tkI; rw [zUp_slot _ (by decide)]
  obtain ⟨μ3, ξ3, e3, e4, p3, t3, r3⟩ := p2.run (N := 300) (by decide) (by omega) (by rw [tk]; exact tb.1) (by rw [tk]; omega)
  obtain ⟨nc3, -⟩ := p3.nc
  obtain ⟨cc, x, u⟩ := p3.cg
  obtain ⟨w, h1, h2, -⟩ := pHolder (s := 249) (k := k) x.1 nc3 x.2.2.1 x.2.1.2.2.2.1 u (by omega) hk
  have e3' : fX10_run 249 300 μ2 = some μ3 := e3
  have e4' : fX12_goes 300 (gUp ξ 272 2 v) = some ξ3 := e4
  unfold fX3_holderWithCuts
  rw [e1, zBd_some, e2, zBd_some, e3', zBd_some, h1, zBd_some]
  exact ⟨w, μ3, ξ3, rfl, e4', h2, fun a ha => ((t3.lt a ha).trans (t2.lt a ha)).trans (f a ha), r3⟩
theorem wG3 {μ ξ : gM} (tk : μ 34 0 = ξ 272 0) (tb : 0 ≤ tkI ξ ∧ tkI ξ ≤ 9999) : fX11_isWithin 300 μ = some (if tkI ξ + 300 ≤ 9999 then 1 else 0) ∧ fX12_canGo 300 ξ = some (if tkI ξ + 300 ≤ 9999 then 1 else 0) := by
  have e := goG (N := 300) tb (by decide)
  have e' : fX12_canGo 300 ξ = some (if tkI ξ + 300 ≤ 9999 then 1 else 0) := e
  exact ⟨(withG tk).trans e', e'⟩
theorem linksG {cn cl cg ct : Nat} {a : Int32} {μ ξ : gM} (nc : NC μ ξ cn cl cg ct) : ∃ b : Bool, fX1_areLinks 4 a μ = some (if b then 1 else 0) ∧ fX12_isIn (a).toInt64 (0 : Int64) ((((1 : Int32) <<< ((ξ 269 1) &&& 31)) - (1 : Int32))).toInt64 ξ = some (if b then 1 else 0) := by
  have b8 := nc.1.2.1
  have q : ∀ n : Nat, n ≤ 8 → ((1 : Int32) <<< (nI n &&& 31)).toInt = ((2 ^ n : Nat) : Int) ∧ ((((1 : Int32) <<< (nI n &&& 31)) - (1 : Int32)).toInt64).toInt = ((2 ^ n : Nat) : Int) - 1 := by decide +kernel
  obtain ⟨q1, q2⟩ := q cl b8
  have z : (0 : Int32).toInt = 0 := rfl
  refine ⟨decide (0 ≤ a.toInt ∧ a.toInt ≤ ((2 ^ cl : Nat) : Int) - 1), ?_, ?_⟩
  · unfold fX1_areLinks
    rw [show (4 + 1 : Nat) = 5 from rfl, nc.2.1.2.1]
    by_cases c : a < 0
    · have := Int32.lt_iff_toInt_lt.mp c
      rw [if_pos c, decide_eq_false (by omega)]; rfl
    · have c' : ¬ a.toInt < (0 : Int32).toInt := fun w => c (Int32.lt_iff_toInt_lt.mpr w)
      rw [if_neg c]
      by_cases d : (1 : Int32) <<< (nI cl &&& 31) ≤ a
      · have := Int32.le_iff_toInt_le.mp d
        rw [if_pos d, decide_eq_false (by omega)]; rfl
      · have d' : ¬ ((1 : Int32) <<< (nI cl &&& 31)).toInt ≤ a.toInt := fun w => d (Int32.le_iff_toInt_le.mpr w)
        rw [if_neg d, decide_eq_true (by omega)]; rfl
  · rw [nc.2.2.2.1, mIn32 _ (y := 0) rfl q2]
    by_cases c : 0 ≤ a.toInt ∧ a.toInt ≤ ((2 ^ cl : Nat) : Int) - 1
    · rw [if_pos c, decide_eq_true c]; rfl
    · rw [if_neg c, decide_eq_false c]; rfl
theorem pUnderV {a1 a2 a3 : Int32} {μ ξ : gM} (h : LIVE μ ξ) : ∃ v μ' ξ', fX11_under a1 a2 a3 μ = some (v, μ') ∧ fX12_under a1 a2 a3 ξ = some (v, ξ') := by
  have l0 := h.u0
  unfold fX11_under fX12_under
  rw [zLt_eq]
  generalize gUp ξ 267 0 0 = ζ at l0 ⊢
  obtain ⟨cn, cl, cg, ct, nc⟩ := l0.nc
  have tb := l0.gd.tb
  have no' : ∀ (x y z : Int32) (κ : gM), fX11_under_n35 x y z (0 : Int32) κ = some (-1, κ) := fun x y z κ => by unfold fX11_under_n35; rw [if_pos rfl]
  rcases pairG (a1 := a1) (a2 := a2) nc with ⟨g, k, hg, hk, rfl, rfl, g1, g2, g3⟩ | ⟨g1, g2 | ⟨g2, g3⟩⟩
  · obtain ⟨b, b1, b2⟩ := linksG (a := a3) nc
    obtain ⟨w1, w2⟩ := wG3 l0.tick tb
    rw [g1, g2, zBd_some, zBd_some, if_neg one_n0, if_neg one_n0, g3, zBd_some, if_neg one_n0, b1, b2, zBd_some, zBd_some, no', w1, w2]
    cases b with
    | false =>
      rw [if_neg (show ¬ (false = true) by decide), if_pos rfl, if_pos rfl]
      exact ⟨_, _, _, rfl, rfl⟩
    | true =>
      rw [if_pos rfl, if_neg one_n0, if_neg one_n0, zBd_some, zBd_some]
      by_cases d : tkI ζ + 300 ≤ 9999
      · rw [if_pos d, if_neg one_n0, if_neg one_n0]
        obtain ⟨ζ1, p1, p2, p3⟩ := mToP (ξ := ζ)
        obtain ⟨x, μ', ξ', e1, e2, e3, -, -⟩ := pHwc (k := k) (v := a3) (l0.gd.to (μ' := μ) (ξ' := ζ1) (fun _ _ => rfl) (p2 269 (by decide)) (fun i _ => by rw [p2 272 (by decide)])) (nc.fr rfl rfl (p2 269 (by decide))) hg hk
        obtain ⟨ξ3, q1, -⟩ := mFromP (v := x) (ξ := ξ')
        unfold fX11_under_n35
        rw [if_neg one_n0, e1, zBp_some, p1, zBd_some, zLt_eq, e2, zBd_some, e3, zBd_some, q1, zBp_some]
        exact ⟨_, _, _, rfl, rfl⟩
      · rw [if_neg d, if_pos rfl, if_pos rfl]
        exact ⟨_, _, _, rfl, rfl⟩
  · rw [g1, g2, zBd_some, zBd_some, if_pos rfl, if_pos rfl, no']
    exact ⟨_, _, _, rfl, rfl⟩
  · rw [g1, g2, zBd_some, zBd_some, if_pos rfl, if_neg one_n0, g3, zBd_some, if_pos rfl, no']
    exact ⟨_, _, _, rfl, rfl⟩
