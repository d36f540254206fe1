/-! readers: the rank -/
def cb (x : Int32) : Nat := (bt x 0).toNat + (bt x 1).toNat + (bt x 2).toNat + (bt x 3).toNat + (bt x 4).toNat + (bt x 5).toNat
theorem cb_pc : ∀ n : Nat, n < 64 → pc (nI n) = nI (cb (nI n)) ∧ cb (nI n) ≤ 6 := by decide +kernel
theorem cb_rm {x : Int32} {b : Nat} (hb : b < 6) (w : bt x b = true) : cb (x &&& (((1 : Int32) <<< (nI b &&& 31)) ^^^ (-1 : Int32))) + 1 = cb x := by
  obtain ⟨z, o⟩ := btAnd (x := x) (k := b) (by omega)
  generalize x &&& (((1 : Int32) <<< (nI b &&& 31)) ^^^ (-1 : Int32)) = y at z o
  have c : b = 0 ∨ b = 1 ∨ b = 2 ∨ b = 3 ∨ b = 4 ∨ b = 5 := by omega
  unfold cb
  rcases c with rfl | rfl | rfl | rfl | rfl | rfl
  · rw [z, w, o 1 (by decide) (by decide), o 2 (by decide) (by decide), o 3 (by decide) (by decide), o 4 (by decide) (by decide), o 5 (by decide) (by decide)]
    simp only [Bool.toNat_false, Bool.toNat_true] <;> omega
  · rw [z, w, o 0 (by decide) (by decide), o 2 (by decide) (by decide), o 3 (by decide) (by decide), o 4 (by decide) (by decide), o 5 (by decide) (by decide)]
    simp only [Bool.toNat_false, Bool.toNat_true] <;> omega
  · rw [z, w, o 0 (by decide) (by decide), o 1 (by decide) (by decide), o 3 (by decide) (by decide), o 4 (by decide) (by decide), o 5 (by decide) (by decide)]
    simp only [Bool.toNat_false, Bool.toNat_true] <;> omega
  · rw [z, w, o 0 (by decide) (by decide), o 1 (by decide) (by decide), o 2 (by decide) (by decide), o 4 (by decide) (by decide), o 5 (by decide) (by decide)]
    simp only [Bool.toNat_false, Bool.toNat_true] <;> omega
  · rw [z, w, o 0 (by decide) (by decide), o 1 (by decide) (by decide), o 2 (by decide) (by decide), o 3 (by decide) (by decide), o 5 (by decide) (by decide)]
    simp only [Bool.toNat_false, Bool.toNat_true] <;> omega
  · rw [z, w, o 0 (by decide) (by decide), o 1 (by decide) (by decide), o 2 (by decide) (by decide), o 3 (by decide) (by decide), o 4 (by decide) (by decide)]
    simp only [Bool.toNat_false, Bool.toNat_true] <;> omega
theorem pRank_l {g cn cl cg ct : Nat} {k : Int32} {μ ξ : gM} (nt : NET μ ξ) (nc : NC μ ξ cn cl cg ct) (mw : MW 34 μ ξ) (hg : g < 5) : ∀ (m : Nat) (i left best : Int32), (∀ j, j < 6 → bt left j = true → mem (ξ 269) g j) → (best = -1 ∨ ∃ b, b < cn ∧ best = nI b ∧ mem (ξ 269) g b ∧ bt left b = true) → cb left < m → ∃ v, fX11_rank_l57 m (nI g) k left best i μ = some v ∧ fX12_rank_l40 m (nI g) k left best i ξ = some (v, ξ) := by
  intro m
  induction m with
  | zero => intro i left best h1 h2 h3; omega
  | succ m ih =>
    intro i left best h1 h2 h3
    rw [fX11_rank_l57, fX12_rank_l40]
    by_cases c : k ≤ i
    · rw [if_pos c, if_pos c]
      exact ⟨_, rfl, rfl⟩
    · rw [if_neg c, if_neg c]
      rcases h2 with rfl | ⟨b, b1, rfl, b3, b4⟩
      · rw [if_pos rfl, if_pos rfl]
        exact ⟨_, rfl, rfl⟩
      · have b6 := b3.2.1
        have nb := nI_m1 (b := b) (by omega)
        have cr := cb_rm b6 b4
        have o := (btAnd (x := left) (k := b) (by omega))
        rw [if_neg nb, if_neg nb, zLt_eq, zLt_eq]
        generalize left &&& (((1 : Int32) <<< (nI b &&& 31)) ^^^ (-1 : Int32)) = y at cr o ⊢
        have hy : ∀ j, j < 6 → bt y j = true → mem (ξ 269) g j := fun j hj w => by
          by_cases e : j = b
          · subst e; rw [o.1] at w; exact absurd w (by decide)
          · rw [o.2 j (by omega) e] at w; exact h1 j hj w
        obtain ⟨v, f1, f2, f3⟩ := pStrong (s := 34) (B := y) nt nc mw hg hy
        rw [f1, f2, zBd_some, zBd_some, zLt_eq, zLt_eq]
        exact ih _ y v hy f3 (by omega)
theorem mRankN {g cn cl cg ct : Nat} {k : Int32} {μ ξ : gM} (nt : NET μ ξ) (nc : NC μ ξ cn cl cg ct) (mw : MW 34 μ ξ) (hg : g < 5) : ∀ (m i : Nat) (left best : Int32), (∀ j, j < 6 → bt left j = true → mem (ξ 269) g j) → (best = -1 ∨ ∃ b, b < cn ∧ best = nI b ∧ mem (ξ 269) g b ∧ bt left b = true) → cb left < m → ((i + cb left : Nat) : Int) ≤ k.toInt → i + cb left ≤ 10 → fX12_rank_l40 m (nI g) k left best (nI i) ξ = some (-1, ξ) := by
  intro m
  induction m with
  | zero => intro i left best h1 h2 h3; omega
  | succ m ih =>
    intro i left best h1 h2 h3 h4 h5
    rw [fX12_rank_l40]
    rcases h2 with rfl | ⟨b, b1, rfl, b3, b4⟩
    · split
      · rfl
      · rw [if_pos rfl]
    · have b6 := b3.2.1
      have nb := nI_m1 (b := b) (by omega)
      have cr := cb_rm b6 b4
      have o := (btAnd (x := left) (k := b) (by omega))
      rw [if_neg (fun w => by have := Int32.le_iff_toInt_le.mp w; rw [tN (by omega)] at this; omega), if_neg nb, zLt_eq]
      generalize left &&& (((1 : Int32) <<< (nI b &&& 31)) ^^^ (-1 : Int32)) = y at cr o ⊢
      have hy : ∀ j, j < 6 → bt y j = true → mem (ξ 269) g j := fun j hj w => by
        by_cases e : j = b
        · subst e; rw [o.1] at w; exact absurd w (by decide)
        · rw [o.2 j (by omega) e] at w; exact h1 j hj w
      obtain ⟨v, f1, f2, f3⟩ := pStrong (s := 34) (B := y) nt nc mw hg hy
      rw [f2, zBd_some, zLt_eq, show nI i + (1 : Int32) = nI (i + 1) from nI_1 i]
      exact ih (i + 1) y v hy f3 (by omega) (by omega) (by omega)
theorem pRankQ {a1 a2 : Int32} {μ ξ : gM} (h : LIVE μ ξ) : ∃ v, fX11_rank a1 a2 μ = some v ∧ fX12_rank a1 a2 ξ = some (v, gUp ξ 267 0 0) := by
  have l0 := h.u0
  unfold fX11_rank fX12_rank
  rw [zLt_eq, zLt_eq]
  generalize gUp ξ 267 0 0 = ζ at l0 ⊢
  obtain ⟨cn, cl, cg, ct, nc⟩ := l0.nc
  obtain ⟨⟨⟨c, n, ⟨⟨nt, nu, mw, ax⟩, grs, cns⟩, pln, -⟩, -⟩, -, ps⟩ := l0
  have b5 := nc.1.2.2.1
  have z0 : (0 : Int32).toInt = 0 := rfl
  rcases groupG (a1 := a1) nc with ⟨g, hg, rfl, g1, g2⟩ | ⟨g1, g2⟩
  · rw [g1, g2, zBd_some, zBd_some, if_neg one_n0, if_neg one_n0]
    by_cases c0 : a2 < 0
    · have := Int32.lt_iff_toInt_lt.mp c0
      rw [if_pos c0, if_neg (fun w => by have := Int32.le_iff_toInt_le.mp w; omega)]
      exact ⟨_, rfl, rfl⟩
    · have c0' : ¬ a2.toInt < (0 : Int32).toInt := fun w => c0 (Int32.lt_iff_toInt_lt.mpr w)
      have b := nt.2.1 g (by omega)
      have gi : gIn (nI g) 5 = true := gI (by omega) (by decide)
      rw [if_neg c0, if_pos (Int32.le_iff_toInt_le.mpr (by omega)), ckT gi, nI_clamp (by omega), nt.m11 (by omega), pcC _ μ b.2.1 b.2.2, zBd_some, ckT (ig (x := 48) (b := 48) (N := 209) (by omega) (by decide) rfl), ix (x := 48) (b := 48) (by omega) rfl, zLt_eq]
      have hm : ∀ j, j < 6 → bt (ζ 269 (48 + g)) j = true → mem (ζ 269) g j := fun j hj w => ⟨by omega, hj, w⟩
      obtain ⟨v, f1, f2, f3⟩ := pStrong (s := 34) (B := ζ 269 (48 + g)) nt nc mw (by omega) hm
      obtain ⟨M, hM, eM⟩ : ∃ M : Nat, M < 64 ∧ ζ 269 (48 + g) = nI M := ⟨(ζ 269 (48 + g)).toInt.toNat, by omega, nI_of' (by omega)⟩
      have ep : pc (ζ 269 (48 + g)) = nI (cb (ζ 269 (48 + g))) ∧ cb (ζ 269 (48 + g)) ≤ 6 := by rw [eM]; exact cb_pc M hM
      rw [f2, zBd_some, ep.1]
      by_cases cm : a2 < nI (cb (ζ 269 (48 + g)))
      · rw [if_pos cm, ckT gi, f1, zBd_some]
        exact pRank_l nt nc mw (by omega) 100000 0 _ v hm f3 (by omega)
      · have cm' : ¬ a2.toInt < (nI (cb (ζ 269 (48 + g)))).toInt := fun w => cm (Int32.lt_iff_toInt_lt.mpr w)
        rw [tN (by omega)] at cm'
        have := mRankN (k := a2) nt nc mw (by omega : g < 5) 100000 0 _ v hm f3 (by omega) (by omega) (by omega)
        rw [if_neg cm]
        exact ⟨_, rfl, this⟩
  · rw [g1, g2, zBd_some, zBd_some, if_pos rfl, if_pos rfl]
    exact ⟨_, rfl, rfl⟩
