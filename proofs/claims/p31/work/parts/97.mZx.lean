/-! paper is opened; what is read off it -/
theorem pOpen {g cn cl cg ct : Nat} {μ ξ : gM} (gd : GD 34 μ ξ) (nc : NC μ ξ cn cl cg ct) (hg : g < cg) : ∃ n μ1, fX3_open (nI g) μ = some μ1 ∧ PGD 249 g n cn cl cg ct μ1 ξ ∧ ∀ a, a < 249 → μ1 a = μ a := by
  obtain ⟨⟨c, n, sr, pln, nx, px⟩, tb⟩ := gd
  have b5 := nc.1.2.2.1
  obtain ⟨μa, e, f1, f2⟩ := cCopy (p := 249) (q := 34) (μ := μ) (by omega)
  have hrk : ∀ κ : gM, (∀ a, a ≠ 263 → κ a = μa a) → ∀ j i, INR j i → κ (249 + j) i = μ (34 + j) i := fun κ hκ j i hj => by rw [hκ _ (by unfold INR at hj; omega)]; exact f2 j i hj
  have hAk : ∀ κ : gM, (∀ a, a ≠ 263 → κ a = μa a) → ∀ a, a < 249 → κ a = μ a := fun κ hκ a ha => by rw [hκ a (by omega), f1 a (by omega)]
  have srk : ∀ κ : gM, (∀ a, a ≠ 263 → κ a = μa a) → SR 249 False 0 κ ξ := fun κ hκ => sr.cp (fun f => absurd f id) (fun a h1 h2 => hAk κ hκ a (by omega)) rfl (hrk κ hκ) (fun _ _ => rfl) (fun f => absurd f id)
  have rsk : ∀ κ : gM, (∀ a, a ≠ 263 → κ a = μa a) → RNG 249 cg κ → RS 249 n False 0 cn cl cg ct κ ξ := fun κ hκ rg => ⟨srk κ hκ, nc.fr (hAk κ hκ 4 (by decide)) (hAk κ hκ 5 (by decide)) rfl, pln.cp rfl (hrk κ hκ) (fun _ _ => rfl), rg, nx, px.cp pln.1 (hrk κ hκ) (fun _ _ => rfl)⟩
  have eA : fX10_runAllGroups 249 μa = some (gUp (gUp μa 263 2 0) 263 3 (nI cg - 1)) := by
    unfold fX10_runAllGroups
    rw [zLt_eq, zLt_eq, zUp_ne (a := 249 + 14) (b := 5) _ (by decide), f1 5 (by omega), nc.2.1.2.2.1]
  have kA : ∀ a, a ≠ 263 → gUp (gUp μa 263 2 0) 263 3 (nI cg - 1) a = μa a := fun a ha => by rw [zUp_ne _ ha, zUp_ne _ ha]
  have rgA : RNG 249 cg (gUp (gUp μa 263 2 0) 263 3 (nI cg - 1)) := ⟨by rw [show 249 + 14 = 263 from rfl, zUp_slot _ (by decide), zUp_same]; rfl, by rw [show 249 + 14 = 263 from rfl, zUp_same, show (1 : Int32) = nI 1 from rfl, pk_sub (by omega), tN (by omega)]; omega⟩
  have rsA := rsk _ kA rgA
  have n4 : μa 34 4 = ξ 272 4 := by rw [f1 34 (by omega)]; exact sr.1.2.1.2.2.2.2.1
  unfold fX3_open
  rw [e, zBd_some, n4]
  by_cases ch : ξ 272 4 = 0
  · rw [if_pos ch]
    have e1 : fX10_runOneGroup 249 (nI g) μa = some (gUp (gUp μa 263 2 (nI g)) 263 3 (nI g)) := by
      unfold fX10_runOneGroup
      rw [zLt_eq, zLt_eq]
    have k1 : ∀ a, a ≠ 263 → gUp (gUp μa 263 2 (nI g)) 263 3 (nI g) a = μa a := fun a ha => by rw [zUp_ne _ ha, zUp_ne _ ha]
    have kk : ∀ a, a ≠ 263 → gUp (gUp μa 263 2 (nI g)) 263 3 (nI g) a = gUp (gUp μa 263 2 0) 263 3 (nI cg - 1) a := fun a ha => (k1 a ha).trans (kA a ha).symm
    have s1 := srk _ k1
    rw [e1, zBd_some]
    refine ⟨n, _, rfl, Or.inr ⟨0, _, rsA, mkPGE (by omega) (fun a h1 h2 => kk a (by omega)) (by rw [kk 249 (by decide)]) ⟨by rw [kk (249 + 1) (by decide)], fun i _ => by rw [kk (249 + 2) (by decide)]⟩ s1.1 rsA.1.1 (s1.2.1 g (by omega)) (rsA.1.2.1 g (by omega)) (fun j hj => (s1.2.1 j hj).h63), ⟨?_, ?_⟩, ch, hg⟩, hAk _ k1⟩
    · rw [show 249 + 14 = 263 from rfl, zUp_slot _ (by decide), zUp_same]
    · rw [show 249 + 14 = 263 from rfl, zUp_same, tN (by omega)]
  · rw [if_neg ch, eA, zBd_some]
    exact ⟨n, _, rfl, Or.inl ⟨0, rsA, hg⟩, hAk _ kA⟩
theorem GD.tb {s : Nat} {μ ξ : gM} (gd : GD s μ ξ) : 0 ≤ tkI ξ ∧ tkI ξ ≤ 9999 := gd.2
theorem GD.ctx {s : Nat} {μ ξ : gM} (gd : GD s μ ξ) : ∃ c, CTX s True c μ ξ ∧ GRS s μ ξ := by
  obtain ⟨⟨c, n, sr, -⟩, -⟩ := gd
  exact ⟨c, sr.1, sr.2.1⟩
theorem GD.to {μ ξ μ' ξ' : gM} (gd : GD 34 μ ξ) (hm : ∀ a, a < 249 → μ' a = μ a) (h9 : ξ' 269 = ξ 269) (h2 : ∀ i, i < 490 → ξ' 272 i = ξ 272 i) : GD 34 μ' ξ' := gd.cp (fun a _ h2 => hm a (by omega)) h9 (fun j i hj => by rw [hm _ (by unfold INR at hj; omega)]) h2
theorem TF.lt {s : Nat} {μ μ' : gM} (t : TF s μ μ') : ∀ a, a < s → μ' a = μ a := fun a ha => t.1 a (by omega)
/-- open, run -/
theorem pOpenRun {g N cn cl cg ct : Nat} {μ ξ : gM} (gd : GD 34 μ ξ) (nc : NC μ ξ cn cl cg ct) (hg : g < cg) (hN : N ≤ 900) : ∃ n μ1 μ2 ξ2, fX3_open (nI g) μ = some μ1 ∧ fX10_run 249 (nI N) μ1 = some μ2 ∧ fX12_goes (nI N) ξ = some ξ2 ∧ PGD 249 g n cn cl cg ct μ2 ξ2 ∧ (∀ a, a < 249 → μ2 a = μ a) ∧ RF ξ ξ2 := by
  obtain ⟨n, μ1, e1, p, f⟩ := pOpen gd nc hg
  have tb := gd.tb
  obtain ⟨μ2, ξ2, e2, e3, p2, t, r⟩ := p.run (N := N) (by decide) hN tb.1 (by omega)
  exact ⟨n, μ1, μ2, ξ2, e1, e2, e3, p2, fun a ha => (t.lt a ha).trans (f a ha), r⟩
theorem mToP {ξ : gM} : ∃ ξ1, fX12_toPaper ξ = some ξ1 ∧ (∀ a, a ≠ 273 → ξ1 a = ξ a) ∧ ∀ i, i < 490 → ξ1 273 (6860 + i) = ξ 272 i := by
  obtain ⟨ξ1, e, f1, f2⟩ := sX12_putsTo (b := 14) (a1 := 14) (μ := ξ) c14 (by decide)
  unfold fX12_toPaper
  rw [e, zBd_some]
  exact ⟨ξ1, rfl, f1, fun i hi => by rw [f2, if_pos (by omega), show 6860 + i - 490 * 14 = i by omega]⟩
theorem mTakeP {ξ : gM} : ∃ ξ1, fX12_takesFrom 14 ξ = some ξ1 ∧ (∀ a, a ≠ 272 → ξ1 a = ξ a) ∧ ∀ i, i < 490 → ξ1 272 i = ξ 273 (6860 + i) := by
  obtain ⟨ξ1, e, f1, f2⟩ := sX12_takesFrom (b := 14) (a1 := 14) (μ := ξ) c14 (by decide)
  exact ⟨ξ1, e, f1, fun i hi => by rw [f2, if_pos (by omega)]⟩
theorem mFromP {v : Int32} {ξ : gM} : ∃ ξ1, fX12_fromPaper v ξ = some (v, ξ1) ∧ (∀ a, a ≠ 272 → ξ1 a = ξ a) ∧ ∀ i, i < 490 → ξ1 272 i = ξ 273 (6860 + i) := by
  obtain ⟨ξ1, e, f1, f2⟩ := mTakeP (ξ := ξ)
  unfold fX12_fromPaper
  rw [e, zBd_some]
  exact ⟨ξ1, rfl, f1, f2⟩
/-- the row lies on paper -/
def ONP (ξ0 ξ : gM) : Prop := ξ 269 = ξ0 269 ∧ ∀ i, i < 490 → ξ 273 (6860 + i) = ξ0 272 i
theorem ONP.rf' {ξ0 ξ ξ' : gM} (h : ONP ξ0 ξ) (r : RF ξ ξ') : ONP ξ0 ξ' := ⟨(r.1 269 (by decide) (by decide) (by decide)).trans h.1, fun i hi => by rw [r.1 273 (by decide) (by decide) (by decide)]; exact h.2 i hi⟩
theorem ONP.up {ξ0 ξ : gM} {a i : Nat} {v : Int32} (h : ONP ξ0 ξ) (h9 : a ≠ 269) (h3 : a ≠ 273) : ONP ξ0 (gUp ξ a i v) := ⟨by rw [zUp_ne _ (Ne.symm h9)]; exact h.1, fun i hi => by rw [zUp_ne _ (Ne.symm h3)]; exact h.2 i hi⟩
theorem withG {a : Int32} {μ ξ : gM} (tk : μ 34 0 = ξ 272 0) : fX11_isWithin a μ = fX12_canGo a ξ := by
  unfold fX11_isWithin fX12_canGo
  rw [tk]
/-- so many ticks go by within the bound -/
theorem goG {N : Nat} {ξ : gM} (h : 0 ≤ tkI ξ ∧ tkI ξ ≤ 9999) (hN : N ≤ 1000) : fX12_canGo (nI N) ξ = some (if tkI ξ + (N : Int) ≤ 9999 then 1 else 0) := by
  have e : (ξ 272 0 + nI N).toInt = tkI ξ + (N : Int) := iA rfl (tN (by omega)) (by omega) (by omega)
  have z : (9999 : Int32).toInt = 9999 := rfl
  unfold fX12_canGo
  by_cases c : tkI ξ + (N : Int) ≤ 9999
  · rw [if_neg (fun w => by have := Int32.lt_iff_toInt_lt.mp w; omega), if_pos c]
  · rw [if_pos (Int32.lt_iff_toInt_lt.mpr (by omega)), if_neg c]
theorem LIVE.gd {μ ξ : gM} (h : LIVE μ ξ) : GD 34 μ ξ := h.1
theorem spanG {a : Int32} {y : Int} {M : Nat} (hM : M < 100000) (hy : 0 ≤ y) (c : y ≤ a.toInt ∧ a.toInt ≤ (M : Int)) : ∃ N : Nat, N ≤ M ∧ y ≤ (N : Int) ∧ a = nI N := ⟨a.toInt.toNat, by omega, by omega, nI_of' (by omega)⟩
/-- ahead -/
theorem pAheadV {a1 a2 : Int32} {μ ξ : gM} (h : LIVE μ ξ) : ∃ v μ' ξ', fX11_ahead a1 a2 μ = some (v, μ') ∧ fX12_ahead a1 a2 ξ = some (v, ξ') := by
  have l0 := h.u0
  unfold fX11_ahead fX12_ahead
  rw [zLt_eq]
  generalize gUp ξ 267 0 0 = ζ at l0 ⊢
  obtain ⟨cn, cl, cg, ct, nc⟩ := l0.nc
  have b5 := nc.1.2.2.1
  have tb := l0.gd.tb
  have z0 : (0 : Int32).toInt = 0 := rfl
  have z5 : (500 : Int32).toInt = 500 := rfl
  have no' : ∀ (x y : Int32) (κ : gM), fX11_ahead_n35 x y (0 : Int32) κ = some (-1, κ) := fun x y κ => by unfold fX11_ahead_n35; rw [if_pos rfl]
  rcases groupG (a1 := a1) nc with ⟨g, hg, rfl, g1, g2⟩ | ⟨g1, g2⟩
  · rw [g1, g2, zBd_some, zBd_some, if_neg one_n0, if_neg one_n0, mIn32 _ (y := 0) (z := 500) rfl rfl, zBd_some, no', withG l0.tick]
    by_cases c : 0 ≤ a2.toInt ∧ a2.toInt ≤ 500
    · obtain ⟨N, n1, n2, rfl⟩ := spanG (M := 500) (by decide) (by decide) c
      rw [if_neg (show ¬ nI N < 0 from fun w => by have := Int32.lt_iff_toInt_lt.mp w; omega), if_neg (show ¬ (500 : Int32) < nI N from fun w => by have := Int32.lt_iff_toInt_lt.mp w; omega), if_pos c, if_neg one_n0, goG tb (by omega), zBd_some]
      by_cases d : tkI ζ + (N : Int) ≤ 9999
      · obtain ⟨ζ1, p1, p2, p3⟩ := mToP (ξ := ζ)
        obtain ⟨n, μ1, μ2, ξ2, o1, o2, o3, o4, o5, o6⟩ := pOpenRun (N := N) (l0.gd.to (fun _ _ => rfl) (p2 269 (by decide)) (fun i _ => by rw [p2 272 (by decide)])) (nc.fr rfl rfl (p2 269 (by decide))) hg (by omega)
        obtain ⟨cc, x, u⟩ := o4.cg
        obtain ⟨ξ3, q1, -⟩ := mFromP (v := μ2 (249 + 5) g) (ξ := ξ2)
        unfold fX11_ahead_n35 fX3_heldIn
        rw [if_pos d, if_neg one_n0, if_neg one_n0, o1, zBd_some, o2, zBd_some, ckT (gI (by omega) (by decide)), nI_clamp (by omega), zBp_some, zBd_some, if_neg one_n0, p1, zBd_some, o3, zBd_some, mHeld x.1 u (by omega), zBd_some, q1, zBp_some]
        exact ⟨_, _, _, rfl, rfl⟩
      · rw [if_neg d, if_pos rfl, zBd_some, if_pos rfl]
        exact ⟨_, _, _, rfl, rfl⟩
    · rw [if_neg c, if_pos rfl]
      by_cases c0 : a2 < 0
      · rw [if_pos c0]
        exact ⟨_, _, _, rfl, rfl⟩
      · have c0' : ¬ a2.toInt < (0 : Int32).toInt := fun w => c0 (Int32.lt_iff_toInt_lt.mpr w)
        rw [if_neg c0, if_pos (show (500 : Int32) < a2 from Int32.lt_iff_toInt_lt.mpr (by omega))]
        exact ⟨_, _, _, rfl, rfl⟩
  · rw [g1, g2, zBd_some, zBd_some, if_pos rfl, if_pos rfl, no']
    exact ⟨_, _, _, rfl, rfl⟩
