/-! acts: first the ticks -/
theorem PAST.fr {μ ξ μ' ξ' : gM} (h : PAST μ ξ) (hm : ∀ a, (4 ≤ a ∧ a ≤ 16) ∨ (49 ≤ a ∧ a < 248) → μ' a = μ a) (h9 : ξ' 269 = ξ 269) (h3 : ξ' 273 = ξ 273) (h4 : ξ' 274 = ξ 274) (h20 : ξ' 267 20 = ξ 267 20) : PAST μ' ξ' := by
  obtain ⟨cnt, idx, p1, p2, p3, p4, p5, p6, p7⟩ := h
  have m49 : μ' 49 = μ 49 := hm 49 (by omega)
  have hA : ∀ a, 4 ≤ a → a ≤ 16 → μ' a = μ a := fun a h1 h2 => hm a (by omega)
  refine ⟨cnt, idx, p1, p2, by rw [m49]; exact p3, by rw [m49]; exact p4, by rw [h20]; exact p5, fun t ht => (p6 t ht).mv hA h9 (fun a h1 h2 => hm a (by unfold actS at *; omega)) (fun i _ => by rw [h3]), fun k hk => ?_⟩
  rw [m49, h4]
  rcases p7 k hk with ⟨u1, u2, u3⟩ | u
  · exact Or.inl ⟨u1, u2, u3.mv hA h9 (fun a h1 h2 => hm a (by omega)) (fun i _ => by rw [h3])⟩
  · exact Or.inr u
/-- all that lives behind a net: the state, the range of its works, the past -/
def LIVE (μ ξ : gM) : Prop := GD 34 μ ξ ∧ (∃ cg, μ 5 2 = nI cg ∧ cg ≤ 5 ∧ RNG 34 cg μ) ∧ PAST μ ξ
theorem LIVE.mv {μ ξ μ' ξ' : gM} (h : LIVE μ ξ) (hm : ∀ a, a < 267 → μ' a = μ a) (h9 : ξ' 269 = ξ 269) (h2 : ξ' 272 = ξ 272) (h3 : ξ' 273 = ξ 273) (h4 : ξ' 274 = ξ 274) (h20 : ξ' 267 20 = ξ 267 20) : LIVE μ' ξ' := by
  obtain ⟨g, ⟨cg, r1, r2, r3⟩, p⟩ := h
  refine ⟨g.cp (fun a h1 h2 => hm a (by omega)) h9 (fun j i hj => by rw [hm _ (by unfold INR at hj; omega)]) (fun i _ => by rw [h2]), ⟨cg, by rw [hm 5 (by decide)]; exact r1, r2, ?_⟩, p.fr (fun a ha => hm a (by omega)) h9 h3 h4 h20⟩
  unfold RNG at *
  rw [hm 48 (by decide)]
  exact r3
theorem LIVE.save {μ ξ : gM} (h : LIVE μ ξ) : ∃ μ' ξ', fX4_save 34 μ = some μ' ∧ fX12_keepsAct ξ = some ξ' ∧ LIVE μ' ξ' ∧ (∀ a, a < 49 ∨ 220 ≤ a → μ' a = μ a) ∧ (∀ a, a ≠ 273 → a ≠ 267 → ξ' a = ξ a) ∧ ∀ i, i ≠ 20 → ξ' 267 i = ξ 267 i := by
  obtain ⟨g, ⟨cg, r1, r2, r3⟩, p⟩ := h
  obtain ⟨μ', ξ', e1, e2, p', f1, f2, f3⟩ := pSave g p
  refine ⟨μ', ξ', e1, e2, ⟨g.cp (fun a h1 h2 => f1 a (by omega)) (f2 269 (by decide) (by decide)) (fun j i hj => by rw [f1 _ (by unfold INR at hj; omega)]) (fun i _ => by rw [f2 272 (by decide) (by decide)]), ⟨cg, by rw [f1 5 (by decide)]; exact r1, r2, ?_⟩, p'⟩, f1, f2, f3⟩
  unfold RNG at *
  rw [f1 48 (by decide)]
  exact r3
/-- a live state may be run -/
theorem LIVE.rs {μ ξ : gM} (h : LIVE μ ξ) : ∃ c n cn cl cg ct, RS 34 n True c cn cl cg ct μ ξ := by
  obtain ⟨⟨⟨c, n, h1, h2, nx, h3⟩, -⟩, ⟨cg, r1, r2, r3⟩, -⟩ := h
  obtain ⟨cn, cl, cg', ct, nc⟩ := h1.1.1.nc
  have eg : cg' = cg := nI_inj (by have := nc.1.2.2.1; omega) (by omega) (nc.2.1.2.2.1.symm.trans r1)
  subst eg
  exact ⟨c, n, cn, cl, cg', ct, h1, nc, h2, r3, nx, h3⟩
theorem RS.live {n cn cl cg ct : Nat} {c : Int32} {μ ξ : gM} (h : RS 34 n True c cn cl cg ct μ ξ) (tb : 0 ≤ tkI ξ ∧ tkI ξ ≤ 9999) (p : PAST μ ξ) : LIVE μ ξ := by
  obtain ⟨h1, nc, h2, r3, nx, h3⟩ := h
  exact ⟨⟨⟨c, n, h1, h2, nx, h3⟩, tb⟩, ⟨cg, nc.2.1.2.2.1, nc.1.2.2.1, r3⟩, p⟩
theorem PAST.tf {μ ξ μ' ξ' : gM} (h : PAST μ ξ) (t : TF 34 μ μ') (r : RF ξ ξ') : PAST μ' ξ' := h.fr (fun a ha => t.1 a (by omega)) (r.1 269 (by decide) (by decide) (by decide)) (r.1 273 (by decide) (by decide) (by decide)) (r.1 274 (by decide) (by decide) (by decide)) (r.2.1 20 (by decide))
theorem LIVE.run {N : Nat} {μ ξ : gM} (h : LIVE μ ξ) (hN : N ≤ 500) (tb : tkI ξ + (N : Int) ≤ 9999) : ∃ μ' ξ', fX10_run 34 (nI N) μ = some μ' ∧ mTk N ξ = some ξ' ∧ LIVE μ' ξ' ∧ TF 34 μ μ' ∧ RF ξ ξ' ∧ tkI ξ' = tkI ξ + (N : Int) := by
  obtain ⟨c, n, cn, cl, cg, ct, rs⟩ := h.rs
  have t0 := h.1.2.1
  obtain ⟨μ', ξ', e1, e2, r', t1, t2, k⟩ := RS.run (s := 34) (by decide) (N := N) (by omega) N 100000 0 μ ξ (by omega) (by omega) rs t0 (by omega)
  refine ⟨μ', ξ', ?_, e2, r'.live ⟨by omega, by omega⟩ (h.2.2.tf t1 t2), t1, t2, k⟩
  unfold fX10_run
  rw [← e1]
  rfl
theorem LIVE.tick {μ ξ : gM} (h : LIVE μ ξ) : μ 34 0 = ξ 272 0 := by
  obtain ⟨⟨⟨c, n, h1, -⟩, -⟩, -⟩ := h
  exact h1.1.2.1.1
/-- ticks: both -/
theorem pTicksA {a1 : Int32} {μ ξ : gM} (h : LIVE μ ξ) (t1 : μ 4 0 = 1) (t2 : ξ 267 15 = 1) : ∃ v μ' ξ', fX11_ticks a1 μ = some (v, μ') ∧ fX12_ticks a1 ξ = some (v, ξ') ∧ LIVE μ' ξ' := by
  have z1 : (1 : Int32).toInt = 1 := rfl
  have z5 : (500 : Int32).toInt = 500 := rfl
  have z9 : (9999 : Int32).toInt = 9999 := rfl
  have tb := h.1.2
  have tk := h.tick
  have l0 : LIVE μ (gUp ξ 267 0 0) := h.mv (fun _ _ => rfl) (zUp_ne _ (by decide)) (zUp_ne _ (by decide)) (zUp_ne _ (by decide)) (zUp_ne _ (by decide)) (zUp_slot _ (by decide))
  unfold fX11_ticks fX12_ticks
  rw [if_neg (by rw [t1]; decide), zLt_eq, if_neg (show ¬ gUp ξ 267 0 0 267 15 = 0 by rw [zUp_slot _ (by decide), t2]; decide), mIn32 _ (y := 1) (z := 500) rfl rfl, zBd_some]
  by_cases c1 : a1 < 1
  · have := Int32.lt_iff_toInt_lt.mp c1
    rw [if_pos c1, if_neg (show ¬ (1 ≤ a1.toInt ∧ a1.toInt ≤ 500) by omega), if_pos rfl]
    exact ⟨_, _, _, rfl, rfl, l0⟩
  · have d1 : ¬ a1.toInt < (1 : Int32).toInt := fun w => c1 (Int32.lt_iff_toInt_lt.mpr w)
    rw [if_neg c1]
    by_cases c2 : 500 < a1
    · have := Int32.lt_iff_toInt_lt.mp c2
      rw [if_pos c2, if_neg (show ¬ (1 ≤ a1.toInt ∧ a1.toInt ≤ 500) by omega), if_pos rfl]
      exact ⟨_, _, _, rfl, rfl, l0⟩
    · have d2 : ¬ (500 : Int32).toInt < a1.toInt := fun w => c2 (Int32.lt_iff_toInt_lt.mpr w)
      rw [if_neg c2, if_pos (show 1 ≤ a1.toInt ∧ a1.toInt ≤ 500 by omega), if_neg one_n0, zUp_ne (a := 267) (b := 272) _ (by decide), tk]
      by_cases c3 : ξ 272 0 + a1 ≤ 9999
      · rw [if_pos c3, if_pos c3]
        obtain ⟨N, eN⟩ : ∃ N : Nat, a1.toInt = N := ⟨a1.toInt.toNat, by omega⟩
        have ea : a1 = nI N := nI_of' eN
        have c3' := Int32.le_iff_toInt_le.mp c3
        have et : (ξ 272 0 + a1).toInt = tkI ξ + (N : Int) := iA (show (ξ 272 0).toInt = tkI ξ from rfl) eN (by omega) (by omega)
        obtain ⟨μa, ξa, e1, e2, la, f1, f2, f3⟩ := l0.save
        have ta : tkI ξa = tkI ξ := by unfold tkI; rw [f2 272 (by decide) (by decide), zUp_ne _ (by decide)]
        obtain ⟨μb, ξb, e3, e4, lb, tf, rf, kb⟩ := la.run (N := N) (by omega) (by rw [ta]; omega)
        have ez : fX12_ticks_l47 100000 (nI N) (0 : Int32) ξa = fX12_ticks_l47 100000 (nI N) (nI 0) ξa := by rw [z32]
        rw [e1, zBd_some, e2, zBd_some, ea, e3, zBd_some, ez, mTicksL N 100000 N 0 ξa ξb (by omega) (by omega) (by omega) e4, lb.tick]
        exact ⟨_, _, _, rfl, rfl, lb⟩
      · rw [if_neg c3, if_neg c3]
        exact ⟨_, _, _, rfl, rfl, l0⟩
