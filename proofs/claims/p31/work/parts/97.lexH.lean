/-! one that is told -/
theorem NT.mf {p q t : Nat} {μ ξ ζ : gM} {P : Nat → Prop} (h : NT p q t μ ξ) (hq : q ≠ 267) (f : MF P ξ ζ) : NT p q t μ ζ := by
  unfold NT at *
  rw [f.1 q hq]
  exact h
theorem SIM.word {b : Nat → Nat} {n s e : Nat} {g : Int} {μ ξ : gM} (h : SIM b n s g μ ξ) (w : WAt b n s g e) : μ 1 4 = 1 ∧ μ 1 6 = nI (eC b s (e - s)) ∧ (μ 1 3).toInt = e := by
  rcases h.2.1.word with ⟨e', u1, u2, u3, u4⟩ | ⟨u1, u2⟩
  · have := u1.uniq w
    subst this
    exact ⟨u2, u3, u4⟩
  · exact absurd w (u1 e)
theorem pKnown {b : Nat → Nat} {n s p q t : Nat} {g : Int} {μ ξ : gM} {a : Int32} (ht : t < 3) (hat : a.toInt = t) (hq : q ≠ 267) (h : SIM b n s g μ ξ) (nt : NT p q t μ ξ) : ∃ (x y : Int32) (μ' ξ' : gM), fX7_known p a μ = some (x, μ') ∧ fX12_oneRead q a ξ = some (y, ξ') ∧ CF μ μ' ∧ MF pF ξ ξ' ∧ (ξ' 267 16).toInt = s ∧ ((x = y ∧ (∃ k : Nat, x = nI k ∧ (k : Int) < (ξ q t).toInt) ∧ ∃ s' g', SIM b n s' g' μ' ξ') ∨ (x = -1 ∧ y = -1 ∧ FLT b n μ' ξ')) := by
  have hn5 := h.1.2.1
  obtain ⟨p0, q1, q2, q3, q4⟩ := h.2.2.2.2.1
  obtain ⟨⟨x1, μ2⟩, e2, t1, k1, k2, k3, k4⟩ := mNext h.2.2.2.1 q1 q2
  have et : t1 = s := Skp.uniq k1 q3
  subst et
  have k2 : x1.toInt = t1 := k2
  have k3 : (μ2 267 4).toInt = t1 := k3
  have k4 : MF p4 ξ μ2 := k4
  unfold fX12_oneRead
  rw [e2, zBp_some]
  simp only [zLt]
  generalize e3 : gUp μ2 267 16 x1 = μ3
  have f3 : MF (fun i => i = 4 ∨ i = 16) ξ μ3 := k4.tr (Q := fun i => i = 4 ∨ i = 16) (by rw [← e3]; exact MF.up _ (Or.inr rfl)) (fun i w => Or.inl w) (fun _ w => w)
  have a3 : (μ3 267 4).toInt = t1 := by rw [← e3, zUp_slot _ (by decide)]; exact k3
  have p3 : (μ3 267 16).toInt = t1 := by rw [← e3, zUp_same]; exact k2
  have h3 : SIM b n t1 g μ μ3 := h.look f3 (by omega) (by omega) (by omega) a3
  have b3 := h3.2.2.2.2.2.2
  rw [mFine1 b3, zBd_some, if_neg (show ¬ (1 : Int32) = 0 by decide)]
  have tn : t1 ≤ n := q3.2.1
  obtain ⟨⟨x11, μ12⟩, e12, t2, m1, m2, m3, m4⟩ := mIsName h3.2.2.2.1 a3 tn b3
  have et2 : t2 = t1 := Skp.uniq m1 ⟨Nat.le_refl _, tn, fun i a d => absurd d (by omega), q3.2.2.2⟩
  subst et2
  have m2 : (μ12 267 4).toInt = t2 := m2
  have m3 : MF pW μ3 μ12 := m3
  rw [e12, zBp_some]
  have f12 : MF pF ξ μ12 := f3.tr m3 (fun i w => by unfold pF; omega) (fun i w => by unfold pW at w; unfold pF; omega)
  have p12 : (μ12 267 16).toInt = t2 := by rw [m3.2 16 (by unfold pW; omega)]; exact p3
  have h12 : SIM b n t2 g μ μ12 := h3.look m3 (by unfold pW; omega) (by unfold pW; omega) (by unfold pW; omega) m2
  have b12 := h12.2.2.2.2.2.2
  unfold fX7_known
  rcases m4 with ⟨e, w1, w2, w3, w4⟩ | ⟨w1, w2⟩
  · have w2 : x11 = 1 := w2
    have w3 : (μ12 267 11).toInt = ((e - t2 : Nat) : Int) := w3
    have w4 : μ12 267 10 = nI (eM b t2 (e - t2)) := w4
    have na : NAt b n t2 g e := (h3.gn e).mpr w1
    obtain ⟨c1, c2, c3⟩ := h.word na.1
    rcases cIsName h.2.1 h.2.2.1 with ⟨e', d1, d2, d3, d4, d5⟩ | ⟨d1, d2⟩
    · rw [d2, zBd_some, if_neg (show ¬ (1 : Int32) = 0 by decide), c2, w2, if_neg (show ¬ (1 : Int32) = 0 by decide)]
      obtain ⟨v, v1, v2, v3⟩ := pFind ht hat (nt.mf hq f12) na.1
      unfold fX12_oneRead_n26
      rw [mFine1 b12, zBd_some, if_neg (show ¬ (1 : Int32) = 0 by decide), w4, v1, v2, zBd_some, zBd_some]
      by_cases cv : v = -1
      · rw [if_pos cv, if_pos cv]
        obtain ⟨ν, r1, r2, r3, r4⟩ := cRefuse (k := 3) (p := μ 1 5) (μ := μ)
        obtain ⟨ζ, z0, z1, z2, z3⟩ := mFail (k := 3) (p := μ12 267 16) b12
        rw [r1, zBp_some, z0, zBd_some]
        refine ⟨-1, v, ν, ζ, rfl, rfl, r4, f12.tr z3 (fun _ w => w) (fun i w => by unfold pF; omega), by rw [z3.2 16 (by omega)]; exact p12, Or.inr ⟨rfl, cv, by rw [r2, z1], by rw [r3, z2]; exact i_eq h.2.1.1 p12, by rw [z1]; decide, h12.2.2.2.1.mf z3 (by omega), t2, by rw [z3.2 4 (by omega)]; exact m2, tn⟩⟩
      · rw [if_neg cv, if_neg cv]
        have hle : e ≤ n := na.1.2.2.1.2.1
        have hse : t2 ≤ e := na.1.2.2.1.1
        obtain ⟨ζ, z0, z1, z2, z3⟩ := mPass m2 w3 (by omega)
        have ee : t2 + (e - t2) = e := by omega
        rw [ee] at z1 z2
        have fζ : MF pF ξ ζ := f12.tr z3 (fun _ w => w) (fun i w => by unfold pF; omega)
        obtain ⟨ν, n0, l1, l2⟩ := SIM.adv h.1 h.2.2.1 c3 hle (Or.inl c1) (h.2.2.2.1.mf fζ (by unfold pF; omega)) z1 z2 (by rw [z3.2 6 (by omega)]; exact b12)
        rw [n0, z0, zBd_some, zBd_some]
        refine ⟨v, v, ν, ζ, rfl, rfl, l1.cf, fζ, by rw [z3.2 16 (by omega)]; exact p12, Or.inl ⟨rfl, ?_, l2⟩⟩
        rcases v3 with u | ⟨k, u1, u2⟩
        · exact absurd u cv
        · rw [f12.1 q hq] at u2
          exact ⟨k, u1, u2⟩
    · exact absurd na (d1 e)
  · have w2 : x11 = 0 := w2
    rw [w2, if_pos rfl]
    rcases cIsName h.2.1 h.2.2.1 with ⟨e', d1, d2, d3, d4, d5⟩ | ⟨d1, d2⟩
    · exact absurd ((h3.gn e').mp d1) (w1 e')
    · rw [d2, zBd_some, if_pos rfl]
      obtain ⟨ζ, z0, t3, j1, j2, j3, j4, j5⟩ := mUnlike h12.2.2.2.1 m2 tn b12
      have et3 : t3 = t2 := Skp.uniq j1 ⟨Nat.le_refl _, tn, fun i a d => absurd d (by omega), q3.2.2.2⟩
      have p16 : ζ 267 16 = μ12 267 16 := by
        have := j4
        unfold fX12_unlike at z0
        obtain ⟨y1, y2, y3, y4⟩ := zBp_s z0
        obtain ⟨⟨x, χ⟩, c0, c1, c2, c3, c4, c5⟩ := mNext h12.2.2.2.1 m2 tn
        rw [c0] at y3
        cases y3
        obtain ⟨u, u0, u1⟩ := zBd_s y4
        cases u1
        have c5 : MF p4 μ12 y2 := c5
        obtain ⟨v, v0, v1, v2, v3⟩ := mFail (k := 1) (p := y1) (ξ := y2) (by rw [c5.2 6 (by unfold p4; omega)]; exact b12)
        rw [u0] at v0
        cases v0
        rw [v3.2 16 (by omega), c5.2 16 (by unfold p4; omega)]
      obtain ⟨ν, r1, r2, r3, r4⟩ := cRefuse (k := 1) (p := μ 1 5) (μ := μ)
      rw [r1, zBp_some, z0, zBd_some]
      unfold fX12_oneRead_n26
      rw [mFine0 (by rw [j2]; decide), zBd_some, if_pos rfl]
      refine ⟨-1, -1, ν, ζ, rfl, rfl, r4, f12.tr j4 (fun _ w => w) (fun _ w => w), by rw [p16]; exact p12, Or.inr ⟨rfl, rfl, by rw [r2, j2], by rw [r3]; exact i_eq h.2.1.1 (by rw [j3, et3]), by rw [j2]; decide, h12.2.2.2.1.mf j4 (by unfold pF; omega), t3, j5, j1.2.1⟩⟩
