/-! plan() leaves all live -/
theorem planLive {μ μ1 μ2 : gM} {v v2 : Int32} (h : Base μ) (ht : TAPE μ) (ho : ∀ k, k < 21 → μ 3 k = gOwn k) (nt : NET μ μ) (t1 : μ 4 0 = 1) (t2 : μ 267 15 = 1) (lv : LIVE μ μ) (e1 : fX11_plan μ = some (v, μ1)) (e2 : fX12_plan μ1 = some (v2, μ2)) : LIVE μ1 μ2 := by
  have hx : ∀ a, 267 ≤ a → μ1 a = μ a := by
    obtain ⟨⟨v', μ1'⟩, e1', h1⟩ := tX11_plan h.1.weak
    have h1 : J false 0 μ μ1' := h1
    rw [e1] at e1'
    obtain ⟨rfl, rfl⟩ := Prod.mk.inj (Option.some.inj e1')
    exact fun a ha => h1.2.2.2 a (Or.inr (Or.inl ha))
  obtain ⟨w, c, μ', ξ', r1, r2, f1, f2, f3, f4, f5, cs⟩ := pPlanRead (ξ := μ1) h ht ho (hx 268 (by decide)) (by rw [hx 267 (by decide)]; exact h.2.2.symm) (by rw [hx 267 (by decide), t2]; decide) (nt.fr (fun _ _ _ => rfl) (hx 269 (by decide)))
  unfold fX11_plan at e1
  rw [if_neg (by rw [t1]; decide), r1, zBp_some, zLt_eq] at e1
  rw [r2] at e2
  unfold fX12_plan_n51 at e2
  obtain ⟨ζ, z0, z1, z8, z9, zi⟩ := isReadE (ξ := ξ')
  rw [z0, zBp_some] at e2
  have m3 : ∀ a, a ≠ 1 → a ≠ 32 → a ≠ 33 → gUp μ' 1 2 0 a = μ a := fun a q1 q2 q3 => by rw [zUp_ne _ q1, f1 a q1 q2 q3]
  have xz : ∀ a, a ≠ 267 → a ≠ 271 → 267 ≤ a → ζ a = μ a := fun a q1 q2 q3 => by rw [z1 a q1, f3 a q1 q2, hx a q3]
  have x20 : ζ 267 20 = μ 267 20 := by rw [zi 20 (by decide) (by decide), f4 20 (by decide) (by decide) (by decide) (by unfold pF; decide), hx 267 (by decide)]
  have l3 : LIVE (gUp μ' 1 2 0) ζ := lv.mv2 (fun a ha => m3 a (by omega) (by omega) (by omega)) (xz 269 (by decide) (by decide) (by decide)) (xz 272 (by decide) (by decide) (by decide)) (xz 273 (by decide) (by decide) (by decide)) (xz 274 (by decide) (by decide) (by decide)) x20
  rcases cs with ⟨rfl, g6, pd, -, -⟩ | ⟨rfl, g6, -, -⟩
  · rw [if_pos g6, if_neg one_n0] at e2
    rw [if_neg one_n0] at e1
    obtain ⟨μ4, ξ6, s1, k1, l4, q1, q2, q3⟩ := l3.save
    rw [s1, zBd_some] at e1
    rw [k1, zBd_some, zLt_eq] at e2
    unfold fX5_copyFrom at e1
    rw [zLt_eq, zLt_eq, zBd_some] at e1
    obtain ⟨d1, d2, d3, d4, d5⟩ := pd
    have c32 : μ4 32 0 = nI c := by rw [q1 32 (by decide), zUp_ne _ (by decide)]; exact d2
    have r33 : ∀ i, i < 5 * c → μ4 33 i = ξ' 271 i := fun i hi => by rw [q1 33 (by decide), zUp_ne _ (by decide)]; exact d3 i hi
    have x71 : ξ6 271 = ξ' 271 := by rw [q2 271 (by decide) (by decide), z1 271 (by decide)]
    have x69 : ξ6 269 = ξ' 269 := by rw [q2 269 (by decide) (by decide), z1 269 (by decide)]
    generalize e5 : gCp (gUp μ4 35 0 (μ4 32 0)) (35 + 1) (va_cpy (gUp μ4 35 0 (μ4 32 0) (32 + 1)) (gUp μ4 35 0 (μ4 32 0) (35 + 1)) (0 : Int32).toNatClampNeg (0 : Int32).toNatClampNeg (100 : Int32).toNatClampNeg) = μ5 at e1
    have o5 : ∀ a, a ≠ 35 → a ≠ 36 → μ5 a = μ4 a := fun a p1 p2 => by rw [← e5, zCp_ne _ p2, zUp_ne _ p1]
    have n5 : μ5 35 0 = nI c := by rw [← e5, zCp_ne _ (by decide), zUp_same, c32]
    have r5 : ∀ i, i < 5 * c → μ5 36 i = ξ' 271 i := fun i hi => by
      rw [← e5, show (36 : Nat) = 35 + 1 from rfl, zCp_same, show (0 : Int32).toNatClampNeg = 0 from rfl, show (100 : Int32).toNatClampNeg = 100 from rfl, cpyAt (by omega), zUp_ne _ (by decide)]
      exact r33 i hi
    obtain ⟨nx, ef, a1, a2, a3, a4⟩ := cFirst (p := 35) (t := μ5 34 0) (μ := μ5) d1 n5 100000 0 (Nat.zero_le _) (by omega)
    have ef' : fX5_firstFrom 35 (μ5 34 0) μ5 = some (nI nx) := by
      unfold fX5_firstFrom
      exact ef
    rw [ef', zBd_some, zLt_eq] at e1
    obtain ⟨-, rfl⟩ := Prod.mk.inj (Option.some.inj e1)
    obtain ⟨ξ7, ep, b1, b2, b3⟩ := mPl74 d1 100000 0 (gUp ξ6 272 8 (nI c)) (Nat.zero_le _) (by omega)
    have ep' : fX12_plan_l74 100000 (nI c) (0 : Int32) (gUp ξ6 272 8 (nI c)) = some (nI c, ξ7) := by rw [← ep]; rfl
    rw [ep'] at e2
    obtain ⟨-, rfl⟩ := Prod.mk.inj (Option.some.inj e2)
    have wx : ∀ a, a ≠ 272 → ξ7 a = ξ6 a := fun a ha => by rw [b1 a ha, zUp_ne _ ha]
    have w8 : ξ7 272 8 = nI c := by rw [b3 8 (by omega), zUp_same]
    have wi : ∀ i, i ≠ 8 → i < 145 ∨ 245 ≤ i → ξ7 272 i = ξ6 272 i := fun i p1 p2 => by rw [b3 i (by omega), zUp_slot _ p1]
    have wr : ∀ i, i < 5 * c → ξ7 272 (145 + i) = ξ' 271 i := fun i hi => by rw [b2 i (Nat.zero_le _) hi, zUp_ne _ (by decide), x71]
    have wm : ∀ a, a ≠ 34 → a ≠ 35 → a ≠ 36 → gUp μ5 34 8 (nI nx) a = μ4 a := fun a p1 p2 p3 => by rw [zUp_ne _ p1, o5 a p2 p3]
    have ws : ∀ i, i ≠ 8 → gUp μ5 34 8 (nI nx) 34 i = μ4 34 i := fun i hi => by rw [zUp_slot _ hi, o5 34 (by decide) (by decide)]
    obtain ⟨⟨⟨c0, n0, sr, -, -⟩, tb⟩, rg, ps⟩ := id l4
    have et : tkI ξ7 = tkI ξ6 := by unfold tkI; rw [wi 0 (by decide) (by decide)]
    have tk : (μ5 34 0).toInt = tkI ξ6 := by rw [o5 34 (by decide) (by decide), l4.tick]; rfl
    have at7 : ∀ k, k < c → atI ξ7 k = (ξ' 271 (5 * k)).toInt := fun k hk => by unfold atI; rw [wr _ (by omega)]
    refine ⟨⟨⟨c0, c, sr.pl wm ws wx wi, ⟨d1, ?_, w8, fun i hi => ?_, fun k hk => ?_, fun k hk => ?_⟩, nx, a2, zUp_same _ _ _ _, fun k hk => ?_, fun k p1 p2 => ?_⟩, by rw [et]; exact tb⟩, ?_, ps.fr (fun a ha => wm a (by omega) (by omega) (by omega)) (wx 269 (by decide)) (wx 273 (by decide)) (wx 274 (by decide)) (by rw [wx 267 (by decide)])⟩
    · rw [zUp_ne _ (by decide)]; exact n5
    · rw [zUp_ne _ (by decide), wr i hi]; exact r5 i hi
    · have := d4 k hk
      unfold EVr at this
      unfold EVK
      rw [at7 k hk, wx 269 (by decide), x69, wr _ (by omega), wr _ (by omega), wr _ (by omega), wr _ (by omega)]
      exact this
    · rw [at7 k (by omega), at7 (k + 1) (by omega)]; exact d5 k hk
    · rw [et, ← tk, at7 k (by omega), ← r5 _ (by omega)]
      exact a3 k (Nat.zero_le _) hk
    · have srt : ∀ d, nx + d < c → (ξ' 271 (5 * nx)).toInt ≤ (ξ' 271 (5 * (nx + d))).toInt := fun d => by
        induction d with
        | zero => intro _; exact Int.le_refl _
        | succ d ihd =>
          intro hd
          have y1 := ihd (by omega)
          have y2 := d5 (nx + d) (by omega)
          rw [← Nat.add_assoc]
          omega
      have y := srt (k - nx) (by omega)
      rw [show nx + (k - nx) = k by omega] at y
      have y2 := a4 (by omega)
      rw [tk, r5 _ (by omega)] at y2
      rw [et, at7 k p2]
      omega
    · obtain ⟨cg, g1, g2, g3⟩ := rg
      refine ⟨cg, by rw [wm 5 (by decide) (by decide) (by decide)]; exact g1, g2, ?_⟩
      unfold RNG at *
      rw [wm (34 + 14) (by decide) (by decide) (by decide)]
      exact g3
  · rw [if_neg g6, if_pos rfl] at e2
    rw [if_pos rfl] at e1
    obtain ⟨-, rfl⟩ := Prod.mk.inj (Option.some.inj e1)
    obtain ⟨-, rfl⟩ := Prod.mk.inj (Option.some.inj e2)
    exact l3
