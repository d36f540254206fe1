/-! both read the same: numbers, stops, the end -/
def DAt (b : Nat → Nat) (n s : Nat) (g : Int) (e : Nat) : Prop := s < n ∧ isD (b s) ∧ Rn isD b n s e ∧ e ≤ s + 4 ∧ (s : Int) ≠ g
theorem CS.num {b : Nat → Nat} {n s : Nat} {g : Int} {μ : gM} (h : CS b n s g μ) : (∃ e, DAt b n s g e ∧ μ 1 4 = 2 ∧ μ 1 6 = nI (eN b s (e - s)) ∧ (μ 1 3).toInt = e) ∨ ((∀ e, ¬ DAt b n s g e) ∧ μ 1 4 ≠ 2) := by
  obtain ⟨h1, e, h2, h3, t⟩ := h
  rcases t with ⟨t1, t2, t3⟩ | ⟨t1, t2, t3, t4, t5⟩ | ⟨t1, t2, t3, t4, t5⟩ | ⟨t1, t2, t3, t4⟩ | ⟨t1, t2, t3, t4, t5, t6⟩
  · exact Or.inr ⟨fun f w => absurd w.1 (by omega), by rw [t2]; decide⟩
  · refine Or.inr ⟨fun f w => ?_, ?_⟩
    · have a := w.2.1; unfold isD at a; unfold isL at t2; omega
    · by_cases c : e ≤ s + 6 ∧ (s : Int) ≠ g
      · rw [(t4 c.1 c.2).1]; decide
      · rw [t5 (by omega)]; decide
  · by_cases c : e ≤ s + 4 ∧ (s : Int) ≠ g
    · exact Or.inl ⟨e, ⟨t1, t2, t3, c.1, c.2⟩, (t4 c.1 c.2).1, (t4 c.1 c.2).2, h2⟩
    · refine Or.inr ⟨fun f w => ?_, by rw [t5 (by omega)]; decide⟩
      have := Rn.uniq t3 w.2.2.1
      subst this
      exact c ⟨w.2.2.2.1, w.2.2.2.2⟩
  · refine Or.inr ⟨fun f w => ?_, by rw [t3]; decide⟩
    have a := w.2.1; unfold isD at a; omega
  · exact Or.inr ⟨fun f w => t3 w.2.1, by rw [t5]; decide⟩
theorem DAt.wd {b : Nat → Nat} {n s e : Nat} {g : Int} (h : DAt b n s g e) : wD b s (e - s) := fun i a c => h.2.2.1.2.2.1 i a (by have := h.2.2.1.1; omega)
theorem pNumber {b : Nat → Nat} {n s : Nat} {g : Int} {μ ξ : gM} {lo hi : Int32} (hlo : 0 ≤ lo.toInt) (h : SIM b n s g μ ξ) : ∃ (x y : Int32) (μ' ξ' : gM), fX7_number lo hi μ = some (x, μ') ∧ fX12_number lo hi ξ = some (y, ξ') ∧ CF μ μ' ∧ MF pF ξ ξ' ∧ ((x = y ∧ lo.toInt ≤ x.toInt ∧ x.toInt ≤ hi.toInt ∧ ∃ s' g', SIM b n s' g' μ' ξ') ∨ (x = -1 ∧ FLT b n μ' ξ')) := by
  obtain ⟨p, q1, q2, q3, q4⟩ := h.2.2.2.2.1
  obtain ⟨⟨y, ζ⟩, eζ, t, k1, e, k2, k3⟩ := mNumber (a1 := lo) (a2 := hi) h.2.2.2.1 q1 q2 h.2.2.2.2.2.2
  have et : t = s := Skp.uniq k1 q3
  subst et
  have gl := h.2.2.2.2.2.1
  have ref : ∀ c : Int32, ∃ ν, fX7_refuse c (μ 1 5) μ = some (0, ν) ∧ ν 1 7 = c ∧ ν 1 8 = μ 1 5 ∧ CF μ ν := fun c => cRefuse
  rw [eζ]
  unfold fX7_number
  rcases k3 with ⟨w, u1, u2, u3, u4, u5⟩ | ⟨w, u1, u2, u3, u4⟩
  · have hd : isD (b t) := k2.2.2.1 t (Nat.le_refl _) w.1
    have da : DAt b n t g e := ⟨by have := k2.2.1; omega, hd, k2, w.2.1, fun c => w.2.2 (gl.mp c).symm⟩
    rcases h.2.1.num with ⟨e', v1, v2, v3, v4⟩ | ⟨v1, v2⟩
    · have ee : e' = e := Rn.uniq v1.2.2.1 k2
      subst ee
      have ev := eN_lt (e' - t) t v1.wd
      have pv := p10 (l := e' - t) (by omega)
      have tv : (μ 1 6).toInt = ((eN b t (e' - t) : Nat) : Int) := by rw [v3]; exact nI_toInt (by omega)
      have u1 : y.toInt = ((eN b t (e' - t) : Nat) : Int) := u1
      have xy : μ 1 6 = y := i_eq tv u1
      rw [if_pos v2]
      simp only [zLt]
      rcases u4 with ⟨c1, c2, c3⟩ | ⟨c1, c2, c3⟩
      · have c1 : lo.toInt ≤ y.toInt := c1
        have c2 : y.toInt ≤ hi.toInt := c2
        rw [if_neg (fun q => by have := Int32.lt_iff_toInt_lt.mp q; rw [xy] at this; omega), if_pos (Int32.le_iff_toInt_le.mpr (by rw [xy]; exact c2))]
        obtain ⟨ν, eν, l1, l2⟩ := SIM.adv h.1 h.2.2.1 v4 k2.2.1 (Or.inr v2) (h.2.2.2.1.mf u5 (by unfold pF; omega)) u2 u3 c3
        exact ⟨μ 1 6, y, ν, ζ, by rw [eν]; rfl, rfl, l1.cf, u5, Or.inl ⟨xy, by rw [xy]; exact c1, by rw [xy]; exact c2, l2⟩⟩
      · have c1 : ¬ (lo.toInt ≤ y.toInt ∧ y.toInt ≤ hi.toInt) := c1
        have c2 : ζ 267 6 = 4 := c2
        have c3 : (ζ 267 7).toInt = t := c3
        obtain ⟨ν, r1, r2, r3, r4⟩ := ref 4
        have n35 : fX7_number_n35 μ = some (-1, ν) := by unfold fX7_number_n35; rw [r1]; rfl
        refine ⟨-1, y, ν, ζ, ?_, rfl, r4, u5, Or.inr ⟨rfl, by rw [r2, c2], by rw [r3]; exact i_eq h.2.1.1 c3, by rw [c2]; decide, h.2.2.2.1.mf u5 (by unfold pF; omega), e', u2, k2.2.1⟩⟩
        by_cases a1 : μ 1 6 < lo
        · rw [if_pos a1]; exact n35
        · rw [if_neg a1, if_neg (fun q => ?_)]
          · exact n35
          · have q1 := Int32.le_iff_toInt_le.mp q
            have q2 : ¬ (μ 1 6).toInt < lo.toInt := fun w => a1 (Int32.lt_iff_toInt_lt.mpr w)
            rw [xy] at q1 q2
            omega
    · exact absurd da (v1 _)
  · have u1 : ζ 267 6 = 1 := u1
    have u2 : (ζ 267 7).toInt = t := u2
    rcases h.2.1.num with ⟨e', v1, v2, v3, v4⟩ | ⟨v1, v2⟩
    · exfalso
      have ee : e' = e := Rn.uniq v1.2.2.1 k2
      subst ee
      exact w ⟨Rn.pos v1.2.2.1 v1.1 v1.2.1, v1.2.2.2.1, fun c => v1.2.2.2.2 (gl.mpr c.symm)⟩
    · rw [if_neg v2]
      obtain ⟨ν, r1, r2, r3, r4⟩ := ref 1
      rw [r1, zBp_some]
      exact ⟨-1, y, ν, ζ, rfl, rfl, r4, u3, Or.inr ⟨rfl, by rw [r2, u1], by rw [r3]; exact i_eq h.2.1.1 u2, by rw [u1]; decide, h.2.2.2.1.mf u3 (by unfold pF; omega), t, u4, k1.2.1⟩⟩
theorem CS.stop {b : Nat → Nat} {n s : Nat} {g : Int} {μ : gM} (h : CS b n s g μ) : (s < n ∧ b s = 59 ∧ μ 1 4 = 3 ∧ (μ 1 3).toInt = ((s + 1 : Nat) : Int)) ∨ (¬ (s < n ∧ b s = 59) ∧ μ 1 4 ≠ 3) := by
  obtain ⟨h1, e, h2, h3, t⟩ := h
  rcases t with ⟨t1, t2, t3⟩ | ⟨t1, t2, t3, t4, t5⟩ | ⟨t1, t2, t3, t4, t5⟩ | ⟨t1, t2, t3, t4⟩ | ⟨t1, t2, t3, t4, t5, t6⟩
  · exact Or.inr ⟨fun w => absurd w.1 (by omega), by rw [t2]; decide⟩
  · refine Or.inr ⟨fun w => by unfold isL at t2; omega, ?_⟩
    by_cases c : e ≤ s + 6 ∧ (s : Int) ≠ g
    · rw [(t4 c.1 c.2).1]; decide
    · rw [t5 (by omega)]; decide
  · refine Or.inr ⟨fun w => by unfold isD at t2; omega, ?_⟩
    by_cases c : e ≤ s + 4 ∧ (s : Int) ≠ g
    · rw [(t4 c.1 c.2).1]; decide
    · rw [t5 (by omega)]; decide
  · exact Or.inl ⟨t1, t2, t3, by rw [h2, t4]⟩
  · exact Or.inr ⟨fun w => t4 w.2, by rw [t5]; decide⟩
theorem CS.ended {b : Nat → Nat} {n s : Nat} {g : Int} {μ : gM} (h : CS b n s g μ) : (s = n ∧ μ 1 4 = 0) ∨ (s < n ∧ μ 1 4 ≠ 0) := by
  obtain ⟨h1, e, h2, h3, t⟩ := h
  rcases t with ⟨t1, t2, t3⟩ | ⟨t1, t2, t3, t4, t5⟩ | ⟨t1, t2, t3, t4, t5⟩ | ⟨t1, t2, t3, t4⟩ | ⟨t1, t2, t3, t4, t5, t6⟩
  · exact Or.inl ⟨t1, t2⟩
  · refine Or.inr ⟨t1, ?_⟩
    by_cases c : e ≤ s + 6 ∧ (s : Int) ≠ g
    · rw [(t4 c.1 c.2).1]; decide
    · rw [t5 (by omega)]; decide
  · refine Or.inr ⟨t1, ?_⟩
    by_cases c : e ≤ s + 4 ∧ (s : Int) ≠ g
    · rw [(t4 c.1 c.2).1]; decide
    · rw [t5 (by omega)]; decide
  · exact Or.inr ⟨t1, by rw [t3]; decide⟩
  · exact Or.inr ⟨t1, by rw [t5]; decide⟩
theorem pOver {b : Nat → Nat} {n s : Nat} {g : Int} {μ ξ : gM} (h : SIM b n s g μ ξ) : ∃ (v w : Int32) (ξ' : gM), fX7_isEnded μ = some v ∧ fX12_isOver ξ = some (w, ξ') ∧ MF p4 ξ ξ' ∧ SIM b n s g μ ξ' ∧ (ξ' 267 4).toInt = s ∧ ((s = n ∧ v = 1 ∧ w = 1) ∨ (s < n ∧ v = 0 ∧ w = 0)) := by
  obtain ⟨p, q1, q2, q3, q4⟩ := h.2.2.2.2.1
  obtain ⟨⟨x, ζ⟩, eζ, t, k1, k2, k3, k4⟩ := mNext h.2.2.2.1 q1 q2
  have et : t = s := Skp.uniq k1 q3
  subst et
  have k2 : x.toInt = t := k2
  have k3 : (ζ 267 4).toInt = t := k3
  have k4 : MF p4 ξ ζ := k4
  have sz : (ζ 267 3).toInt = n := by rw [k4.2 3 (by unfold p4; omega)]; exact h.2.2.2.1.1
  unfold fX7_isEnded fX12_isOver
  rw [eζ, zBp_some]
  have hs := h.look k4 (by unfold p4; omega) (by unfold p4; omega) (by unfold p4; omega) k3
  rcases h.2.1.ended with ⟨c1, c2⟩ | ⟨c1, c2⟩
  · rw [if_pos c2, if_neg (fun q => by have := Int32.lt_iff_toInt_lt.mp q; omega)]
    exact ⟨1, 1, ζ, rfl, rfl, k4, hs, k3, Or.inl ⟨c1, rfl, rfl⟩⟩
  · rw [if_neg c2, if_pos (Int32.lt_iff_toInt_lt.mpr (by omega))]
    exact ⟨0, 0, ζ, rfl, rfl, k4, hs, k3, Or.inr ⟨c1, rfl, rfl⟩⟩
theorem pStop {b : Nat → Nat} {n s : Nat} {g : Int} {μ ξ : gM} (h : SIM b n s g μ ξ) : ∃ (v : Int32) (μ' ξ' : gM), fX7_passStop μ = some (v, μ') ∧ fX12_needsSign 59 ξ = some ξ' ∧ CF μ μ' ∧ MF pF ξ ξ' ∧ ((v = 1 ∧ ∃ s' g', SIM b n s' g' μ' ξ') ∨ (v = 0 ∧ FLT b n μ' ξ')) := by
  have b0 := h.2.2.2.2.2.2
  have hn5 := h.1.2.1
  obtain ⟨v, w, ζ, e1, e2, f2, h2, a2, c⟩ := pOver h
  obtain ⟨p, q1, q2, q3, q4⟩ := h2.2.2.2.2.1
  have q4 : (ζ 267 5).toInt ≤ s := by have := q3.1; omega
  unfold fX12_needsSign
  rw [mFine1 b0, zBd_some, if_neg (show ¬ (1 : Int32) = 0 by decide)]
  unfold fX12_takesSign
  rw [mFine1 b0, zBd_some, if_neg (show ¬ (1 : Int32) = 0 by decide), e2, zBp_some]
  have fz : MF pF ξ ζ := f2.tr (MF.rf (P := pF) _) (fun i w => by unfold p4 at w; unfold pF; omega) (fun _ w => w)
  have bad : μ 1 4 ≠ 3 → zH (zBp (some ((0 : Int32), ζ)) (fun x2 μ3 => if x2 = 0 then zBd (fX12_unlike μ3) (fun μ4 => some μ4) else some μ3)) (fun ξ' => ∃ (v : Int32) (μ' : gM), fX7_passStop μ = some (v, μ') ∧ CF μ μ' ∧ MF pF ξ ξ' ∧ ((v = 1 ∧ ∃ s' g', SIM b n s' g' μ' ξ') ∨ (v = 0 ∧ FLT b n μ' ξ'))) := fun n3 => by
    rw [zBp_some, if_pos rfl]
    obtain ⟨χ, eχ, t, k1, k2, k3, k4, k5⟩ := mUnlike h2.2.2.2.1 q1 q2 h2.2.2.2.2.2.2
    have et : t = s := Skp.uniq k1 q3
    obtain ⟨ν, r1, r2, r3, r4⟩ := cRefuse (k := 1) (p := μ 1 5) (μ := μ)
    rw [eχ]
    refine zH_some ⟨0, ν, ?_, r4, fz.tr k4 (fun _ w => w) (fun _ w => w), Or.inr ⟨rfl, by rw [r2, k2], by rw [r3]; exact i_eq h.2.1.1 (by rw [k3, et]), by rw [k2]; decide, h2.2.2.2.1.mf k4 (by unfold pF; omega), t, k5, k1.2.1⟩⟩
    unfold fX7_passStop
    rw [if_neg n3, r1]
    rfl
  rcases c with ⟨c1, c2, c3⟩ | ⟨c1, c2, c3⟩
  · subst c3
    rw [if_neg (show ¬ (1 : Int32) = 0 by decide)]
    rcases h.2.1.stop with ⟨d1, d2, d3, d4⟩ | ⟨d1, d2⟩
    · omega
    · obtain ⟨ξ', x1, v', μ', y1, y2⟩ := bad d2
      exact ⟨v', μ', ξ', y1, x1, y2⟩
  · subst c3
    rw [if_pos rfl]
    have ck : gIn (ζ 267 4) 1500 = true := zIn a2 (by omega) (by omega)
    unfold zCk
    rw [if_pos ck, cl_of a2]
    have hb := h2.2.2.2.1.2.2 s c1
    rcases h.2.1.stop with ⟨d1, d2, d3, d4⟩ | ⟨d1, d2⟩
    · have t59 : ζ 268 s = 59 := Int32.toInt_inj.mp (by rw [hb.1 (by omega), d2]; rfl)
      rw [if_pos t59]
      simp only [zLt]
      rw [zBp_some, if_neg (show ¬ (1 : Int32) = 0 by decide)]
      have f5 : MF pF ξ (gUp ζ 267 4 (ζ 267 4 + 1)) := fz.tr (MF.up _ (Or.inl rfl)) (fun _ w => w) (fun _ w => w)
      obtain ⟨ν, eν, s', k1, k2, k3⟩ := cAdvance h.1 d4 (by omega)
      have gl : glue (μ 1 4) (s + 1) = -1 := by unfold glue; rw [d3, if_neg (by decide)]
      rw [gl] at k2
      have a5 : (gUp ζ 267 4 (ζ 267 4 + 1) 267 4).toInt = ((s + 1 : Nat) : Int) := by rw [zUp_same, iA a2 (iL (1) (1) rfl) (by omega) (by omega)]; omega
      have s5 : gUp ζ 267 4 (ζ 267 4 + 1) 267 5 = ζ 267 5 := zUp_slot _ (by decide)
      refine ⟨1, ν, _, ?_, rfl, k3.cf, f5, Or.inl ⟨rfl, s', -1, h.1.lf k3, k2, ⟨fun k hk => by rw [k3.1 3 (by decide)]; exact h.2.2.1.1 k hk, by rw [k3.2.2.1]; exact h.2.2.1.2.1, by rw [k3.2.2.2]; exact h.2.2.1.2.2⟩, h.2.2.2.1.mf f5 (by unfold pF; omega), ⟨s + 1, a5, by omega, k1, by rw [s5]; omega⟩, ?_, by rw [zUp_slot _ (by decide)]; exact h2.2.2.2.2.2.2⟩⟩
      · unfold fX7_passStop
        rw [if_pos d3, eν]
        rfl
      · rw [s5]
        have := k1.1
        omega
    · have t59 : ¬ ζ 268 s = 59 := fun q => by
        have q1 := congrArg Int32.toInt q
        have e59 : (59 : Int32).toInt = 59 := rfl
        rcases Nat.lt_or_ge (b s) 128 with w | w
        · have := hb.1 w; exact d1 ⟨c1, by omega⟩
        · have := hb.2 w; omega
      rw [if_neg t59]
      obtain ⟨ξ', x1, v', μ', y1, y2⟩ := bad d2
      exact ⟨v', μ', ξ', y1, x1, y2⟩
