/-! worst -/
theorem cWorst_t {g cn : Nat} {a2 lo wh F : Int32} {μ : gM} (hF : ∀ k, cn ≤ k → k < 6 → bt F k = false) : ∀ (m j : Nat), cn ≤ j → j ≤ 6 → 6 < j + m → fX11_worst_l49 m (nI g) a2 lo wh F (nI j) μ = (if a2 = 0 then some (lo, μ) else some (wh, μ)) := by
  intro m
  induction m with
  | zero => intro j h1 h2 h3; omega
  | succ m ih =>
    intro j h1 h2 h3
    rw [fX11_worst_l49]
    by_cases c : 6 ≤ j
    · rw [if_pos ((le6 (by omega)).mpr c)]
    · rw [if_neg (show ¬ (6 : Int32) ≤ nI j from fun w => c ((le6 (by omega)).mp w)), if_pos ((bit0_iff (by omega)).mpr (hF j h1 (by omega))), zLt_eq, show nI j + (1 : Int32) = nI (j + 1) from nI_1 j]
      exact ih (j + 1) (by omega) (by omega) (by omega)
theorem pWorst_l {g cn cl cg ct : Nat} {a2 F : Int32} (hg : g < cg) : ∀ (m j : Nat) (lo wh : Int32) (μ ξ : gM), GD 34 μ ξ → NC μ ξ cn cl cg ct → (∀ k, k < 6 → bt F k = (bt (ξ 269 (48 + g)) k && bt (ξ 272 1) k)) → j ≤ cn → 6 < j + m → ∃ v μ' ξ', fX11_worst_l49 m (nI g) a2 lo wh F (nI j) μ = some (v, μ') ∧ fX12_worst_l33 m (nI g) a2 lo wh (nI j) ξ = some (v, ξ') := by
  intro m
  induction m with
  | zero => intro j lo wh μ ξ _ nc _ h1 h2; have := nc.1.1; omega
  | succ m ih =>
    intro j lo wh μ ξ gd nc hF h1 h2
    have b6 := nc.1.1
    have b5 := nc.1.2.2.1
    obtain ⟨c0, x0, grs⟩ := gd.ctx
    rw [fX12_worst_l33]
    unfold fX12_gates
    rw [zBd_some, nc.2.2.1]
    by_cases c : j = cn
    · rw [cWorst_t (cn := cn) (fun k k1 k2 => by
        rw [hF k k2, ← Bool.not_eq_true, Bool.and_eq_true]
        exact fun w => absurd (x0.1.mlt nc ⟨by omega, k2, w.1⟩).1 (by omega)) (m + 1) j (by omega) (by omega) (by omega), if_pos ((nIle (by omega) (by omega)).mpr (by omega))]
      by_cases d : a2 = 0
      · rw [if_pos d, if_pos d]
        exact ⟨_, _, _, rfl, rfl⟩
      · rw [if_neg d, if_neg d]
        exact ⟨_, _, _, rfl, rfl⟩
    · have e1 : nI j + (1 : Int32) = nI (j + 1) := nI_1 j
      rw [fX11_worst_l49, if_neg (show ¬ (6 : Int32) ≤ nI j from fun w => by have := (le6 (by omega)).mp w; omega), if_neg (show ¬ nI cn ≤ nI j from fun w => by have := (nIle (by omega) (by omega)).mp w; omega), mOf ξ (by omega) (by omega), zBd_some, ckT (ig (x := 40) (b := 40) (N := 490) (by omega) (by decide) rfl), ix (x := 40) (b := 40) (by omega) rfl]
      have hb := (grs g (by omega)).hb (by omega) (by omega : j < 6)
      by_cases b : bt F j = true
      · have b' := b
        rw [hF j (by omega), Bool.and_eq_true] at b'
        have nz : ¬ ξ 272 (40 + (6 * g + j)) = 0 := by
          rcases hb with ⟨-, -, w⟩ | ⟨w, -⟩ | ⟨w, -⟩
          · rw [b'.1, b'.2] at w; exact absurd w (by decide)
          · rw [w]; decide
          · rw [w]; decide
        obtain ⟨v, v1, μ', ξ', s1, s2, -, -, s5, s6, s7⟩ := pFailsIn (k := j) gd nc hg (by omega)
        have gd' := gd.to s5 s6 s7
        have nc' := nc.fr (s5 4 (by decide)) (s5 5 (by decide)) s6
        have hF' : ∀ k, k < 6 → bt F k = (bt (ξ' 269 (48 + g)) k && bt (ξ' 272 1) k) := fun k hk => by rw [s6, s7 1 (by decide)]; exact hF k hk
        rw [if_neg (show ¬ ((F >>> (nI j &&& 31)) &&& (1 : Int32)) = 0 from fun w => by rw [bit0_iff (by omega), b] at w; exact absurd w (by decide)), if_neg nz, s1, s2, zBp_some, zBp_some]
        by_cases q : v = -1
        · rw [if_pos q, if_pos q]
          by_cases d : a2 = 0
          · rw [if_pos d, if_pos d]
            exact ⟨_, _, _, rfl, rfl⟩
          · rw [if_neg d, if_neg d]
            exact ⟨_, _, _, rfl, rfl⟩
        · rw [if_neg q, if_neg q]
          by_cases r : v ≤ lo
          · have r' := Int32.le_iff_toInt_le.mp r
            rw [if_pos r, if_neg (show ¬ lo < v from fun w => by have := Int32.lt_iff_toInt_lt.mp w; omega), zLt_eq, zLt_eq, e1]
            exact ih (j + 1) lo wh μ' ξ' gd' nc' hF' (by omega) (by omega)
          · have r' : ¬ v.toInt ≤ lo.toInt := fun w => r (Int32.le_iff_toInt_le.mpr w)
            rw [if_neg r, if_pos (show lo < v from Int32.lt_iff_toInt_lt.mpr (by omega)), zLt_eq, zLt_eq, e1]
            exact ih (j + 1) v (nI j) μ' ξ' gd' nc' hF' (by omega) (by omega)
      · have b0 : bt F j = false := Bool.eq_false_iff.mpr b
        have b' := b0
        rw [hF j (by omega)] at b'
        have z : ξ 272 (40 + (6 * g + j)) = 0 := by
          rcases hb with ⟨w, -⟩ | ⟨-, -, w, w2⟩ | ⟨-, -, w, w2⟩
          · exact w
          · rw [w.2.2, w2] at b'; exact absurd b' (by decide)
          · rw [w.2.2, w2] at b'; exact absurd b' (by decide)
        rw [if_pos ((bit0_iff (by omega)).mpr b0), if_pos z, zLt_eq, zLt_eq, e1]
        exact ih (j + 1) lo wh μ ξ gd nc hF (by omega) (by omega)
theorem pWorstV {a1 a2 : Int32} {μ ξ : gM} (h : LIVE μ ξ) : ∃ v μ' ξ', fX11_worst a1 a2 μ = some (v, μ') ∧ fX12_worst a1 a2 ξ = some (v, ξ') := by
  have l0 := h.u0
  unfold fX11_worst fX12_worst
  rw [zLtM]
  generalize gUp ξ 267 0 0 = ζ at l0 ⊢
  obtain ⟨cn, cl, cg, ct, nc⟩ := l0.nc
  have b5 := nc.1.2.2.1
  obtain ⟨c0, x0, -⟩ := l0.gd.ctx
  have z0 : (0 : Int32).toInt = 0 := rfl
  have z1 : (1 : Int32).toInt = 1 := rfl
  rcases groupG (a1 := a1) nc with ⟨g, hg, rfl, g1, g2⟩ | ⟨g1, g2⟩
  · rw [g1, g2, zBd_some, zBd_some, if_neg one_n0, if_neg one_n0, mIn32 _ (y := 0) (z := 1) rfl rfl, zBd_some]
    by_cases c : 0 ≤ a2.toInt ∧ a2.toInt ≤ 1
    · obtain ⟨v, μ', ξ', e1, e2⟩ := pWorst_l (a2 := a2) (F := ζ 269 (48 + g) &&& ζ 272 1) hg 100000 0 (-1) (-1) μ ζ l0.gd nc (fun k _ => bt_and _ _ _) (by omega) (by omega)
      have e1' : fX11_worst_l49 100000 (nI g) a2 (-1 : Int32) (-1 : Int32) (ζ 269 (48 + g) &&& ζ 272 1) (0 : Int32) μ = some (v, μ') := e1
      have e2' : fX12_worst_l33 100000 (nI g) a2 (-1 : Int32) (-1 : Int32) (0 : Int32) ζ = some (v, ξ') := e2
      have u1 : μ 34 1 = ζ 272 1 := x0.2.1.2.1
      rw [if_neg (show ¬ a2 < 0 from fun w => by have := Int32.lt_iff_toInt_lt.mp w; omega), if_pos (show a2 ≤ 1 from Int32.le_iff_toInt_le.mpr (by omega)), if_pos c, if_neg one_n0, ckT (gI (by omega) (by decide)), nI_clamp (by omega), zLt_eq, x0.1.m11 (by omega), u1, e1', e2']
      exact ⟨_, _, _, rfl, rfl⟩
    · rw [if_neg c, if_pos rfl]
      by_cases d : a2 < 0
      · rw [if_pos d]
        exact ⟨_, _, _, rfl, rfl⟩
      · have d' : ¬ a2.toInt < (0 : Int32).toInt := fun w => d (Int32.lt_iff_toInt_lt.mpr w)
        rw [if_neg d, if_neg (show ¬ a2 ≤ 1 from fun w => by have := Int32.le_iff_toInt_le.mp w; omega)]
        exact ⟨_, _, _, rfl, rfl⟩
  · rw [g1, g2, zBd_some, zBd_some, if_pos rfl, if_pos rfl]
    exact ⟨_, _, _, rfl, rfl⟩
