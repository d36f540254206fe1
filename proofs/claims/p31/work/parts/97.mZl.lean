/-! behind a net all is live -/
theorem NewN.live {μ μ1 μ2 : gM} (h : NewN μ μ1 μ2) : LIVE μ1 μ2 := by
  obtain ⟨μ5, μ6, ξ9, e1, e2, j5, j6, j7, -, e3, o9, i0, i1, i20, -, n, e9, -, -⟩ := h
  unfold fX4_forgetAll at e1
  rw [zLt_eq, zLt_eq] at e1
  obtain rfl := Option.some.inj e1
  have b37 : (bdC (gk 37) 1) = (0, 59) := by decide
  have b49 : (bdC (gk 49) 3) = (0, 11) := by decide
  have l37 := j6.1 37 (by decide) 1
  have l49 := j6.1 49 (by decide) 3
  rw [b37] at l37
  rw [b49] at l49
  generalize eμ : gUp (gUp μ5 49 2 0) 49 4 0 = μ6 at *
  have n6 : NET μ6 ξ9 := n.fr (fun a h1 h2 => by rw [← eμ, zUp_ne _ (by omega), zUp_ne _ (by omega)]) rfl
  obtain ⟨cn, cl, cg, ct, nc⟩ := n6.nc
  obtain ⟨c, μ', ξ', f1, f2, rs, tk, om, ox, oi⟩ := pBegin (s := 34) (by decide) n6 nc l37
  rw [e2] at f1
  obtain rfl := Option.some.inj f1
  rw [e3] at f2
  obtain rfl := Option.some.inj f2
  have m49 : μ1 49 = μ6 49 := om 49 (by decide)
  refine rs.live ⟨by omega, by omega⟩ ⟨0, (μ6 49 3).toInt.toNat, by decide, by omega, ?_, ?_, ?_, fun t ht => absurd ht (by omega), fun k hk => Or.inr ⟨?_, ?_⟩⟩
  · rw [m49, ← eμ, zUp_slot _ (by decide), zUp_same]; rfl
  · rw [m49]; exact nI_of' (by omega)
  · rw [oi 20 (by decide), i20]; rfl
  · rw [m49, ← eμ, zUp_same, bt_zero]
  · rw [ox 274 (by decide) (by decide) (by decide)]
    have : k = 0 ∨ k = 1 := by omega
    rcases this with rfl | rfl
    · exact i0
    · exact i1
