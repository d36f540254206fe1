/-! net(): the nets alike, the fault alike -/
theorem zLt_eq {α β : Type} {a : α} {f : α → Option β} : zLt a f = f a := rfl
theorem cpyAt {f g : Nat → Int32} {n j : Nat} (h : j < n) : va_cpy f g 0 0 n j = f j := by
  unfold va_cpy
  rw [if_pos (by omega)]
  congr 1
  omega
/-- the draft laid over the net -/
def CPY (μ3 μ5 : gM) : Prop := (μ5 4 0 = 1 ∧ μ5 4 10 = μ3 18 10) ∧ (∀ j, j < 3 → μ5 5 j = μ3 19 j) ∧ (∀ j, j < 24 → μ5 6 j = μ3 20 j) ∧ (∀ j, j < 5 → μ5 7 j = μ3 21 j) ∧ (∀ j, j < 5 → μ5 8 j = μ3 22 j) ∧ (∀ j, j < 5 → μ5 9 j = μ3 23 j) ∧ (∀ j, j < 5 → μ5 10 j = μ3 24 j) ∧ (∀ j, j < 5 → μ5 11 j = μ3 25 j) ∧ (∀ j, j < 30 → μ5 12 j = μ3 26 j) ∧ (∀ j, j < 30 → μ5 13 j = μ3 27 j) ∧ (∀ j, j < 24 → μ5 14 j = μ3 28 j) ∧ (∀ j, j < 24 → μ5 15 j = μ3 29 j) ∧ (∀ j, j < 24 → μ5 16 j = μ3 30 j)
theorem net_go3 {M μ3 : gM} (h3 : J false 0 M μ3) : zH (zBd (fX1_copyFrom 4 18 μ3) (fun μ4 => zLt (gUp μ4 4 0 (1 : Int32)) (fun μ5 => zBd (fX4_forgetAll μ5) (fun μ6 => zBd (fX10_begin 34 μ6) (fun μ7 => (some ((μ7 5 2), μ7))))))) (fun r => ∃ μ5 μ6 : gM, J true 0 μ5 μ5 ∧ fX4_forgetAll μ5 = some μ6 ∧ J true 0 μ5 μ6 ∧ fX10_begin 34 μ6 = some r.2 ∧ J true 0 μ5 r.2 ∧ r.1 = r.2 5 2 ∧ (∀ a, ¬ (4 ≤ a ∧ a ≤ 16) → μ5 a = μ3 a) ∧ CPY μ3 μ5) := by
  have d := h3.nb18
  refine zH_bd cp1 (fun μ4 p4 => ?_)
  obtain ⟨f4, ⟨t4, u4⟩, v5, v6, v7, v8, v9, v10, v11, v12, v13, v14, v15, v16⟩ := p4
  refine zH_lt (fun μ5 e5 => ?_)
  have w5 : ∀ a, a ≠ 4 → μ5 a = μ4 a := fun a ha => by rw [e5, zUp_ne _ ha]
  have t5 : μ5 4 10 = μ3 18 10 := by rw [e5, zUp_slot _ (by decide)]; exact t4
  have cp : CPY μ3 μ5 := ⟨⟨by rw [e5, zUp_same], t5⟩, fun j hj => by rw [w5 5 (by decide), v5]; exact cpyAt hj, fun j hj => by rw [w5 6 (by decide), v6]; exact cpyAt hj, fun j hj => by rw [w5 7 (by decide), v7]; exact cpyAt hj, fun j hj => by rw [w5 8 (by decide), v8]; exact cpyAt hj, fun j hj => by rw [w5 9 (by decide), v9]; exact cpyAt hj, fun j hj => by rw [w5 10 (by decide), v10]; exact cpyAt hj, fun j hj => by rw [w5 11 (by decide), v11]; exact cpyAt hj, fun j hj => by rw [w5 12 (by decide), v12]; exact cpyAt hj, fun j hj => by rw [w5 13 (by decide), v13]; exact cpyAt hj, fun j hj => by rw [w5 14 (by decide), v14]; exact cpyAt hj, fun j hj => by rw [w5 15 (by decide), v15]; exact cpyAt hj, fun j hj => by rw [w5 16 (by decide), v16]; exact cpyAt hj⟩
  have b5 : NB 4 μ5 := by
    refine ⟨?_, ?_, ?_, ?_⟩
    · show 0 ≤ (μ5 5 0).toInt ∧ (μ5 5 0).toInt ≤ 6
      rw [cp.2.1 0 (by decide)]; exact d.1
    · show 0 ≤ (μ5 5 1).toInt ∧ (μ5 5 1).toInt ≤ 8
      rw [cp.2.1 1 (by decide)]; exact d.2.1
    · show 0 ≤ (μ5 5 2).toInt ∧ (μ5 5 2).toInt ≤ 5
      rw [cp.2.1 2 (by decide)]; exact d.2.2.1
    · rw [t5]; exact d.2.2.2
  have w4 : ∀ a, ¬ (4 ≤ a ∧ a ≤ 16) → μ5 a = μ3 a := fun a ha => by rw [w5 a (by omega)]; exact f4 a ha
  have h5 : J false 0 (nM M μ5) μ5 := h3.net w4 b5
  have j5 : J true 0 μ5 μ5 := ⟨h5.1, h5.2.1, h5.2.2.1, fun _ _ => rfl⟩
  obtain ⟨μ6, e6, h6⟩ := tX4_forgetAll j5
  obtain ⟨μ7, e7, h7⟩ := tX10_begin sW_34 h6
  rw [e6, zBd_some, e7, zBd_some]
  exact zH_some ⟨μ5, μ6, j5, e6, h6, e7, h7, rfl, w4, cp⟩
/-- the drafts alike: the nets alike -/
theorem NET.of {μ3 μ5 ξ ξ' : gM} (dr : DR μ3 ξ) (cp : CPY μ3 μ5) (o : ∀ j, j < 209 → ξ' 269 j = ξ 270 j) : NET μ5 ξ' := by
  obtain ⟨⟨n0, n1, n2⟩, mb, mw, cg, ct, l1, l2, l3, l4, l5, l6, gr, tk⟩ := dr
  obtain ⟨⟨-, t5⟩, c5, c6, c7, c8, c9, c10, c11, c12, c13, c14, c15, c16⟩ := cp
  have nt : ∀ t, t < 3 → NT 18 270 t μ3 ξ → NT 4 269 t μ5 ξ' := fun t ht nt => by
    obtain ⟨u1, u2, u3⟩ := nt
    refine ⟨?_, by rw [o t (by omega)]; exact u2, fun k hk => ?_⟩
    · show μ5 5 t = ξ' 269 t
      rw [c5 t ht, o t (by omega)]; exact u1
    · rw [o t (by omega)] at hk
      show NM (μ5 6 (t * 8 + k)) (ξ' 269 (4 + 8 * t + k))
      rw [c6 _ (by omega), o _ (by omega)]
      exact u3 k hk
  refine ⟨⟨nt 0 (by decide) n0, nt 1 (by decide) n1, nt 2 (by decide) n2⟩, fun g hg => ?_, fun g k hg hk hb => ?_, cg, ct, l1, l2, by rw [o 0 (by decide)]; exact l3, by rw [o 2 (by decide)]; exact l4, by rw [o 3 (by decide)]; exact l5, t5.trans l6, fun g hg => ?_, fun t ht => ?_⟩
  · rw [c11 g hg, o (48 + g) (by omega)]; exact mb g hg
  · rw [o (48 + g) (by omega)] at hb
    rw [c12 _ (by omega), c13 _ (by omega), o (53 + (6 * g + k)) (by omega), o (83 + (6 * g + k)) (by omega), o 0 (by decide), o 2 (by decide)]
    exact mw g k hg hk hb
  · rw [c7 g (by omega), c8 g (by omega), c9 g (by omega), c10 g (by omega), o (28 + g) (by omega), o (33 + g) (by omega), o (38 + g) (by omega), o (43 + g) (by omega)]
    exact gr g hg
  · rw [c14 t (by omega), c15 t (by omega), c16 t (by omega), o (113 + 4 * t) (by omega), o (113 + 4 * t + 1) (by omega), o (113 + 4 * t + 2) (by omega), o (113 + 4 * t + 3) (by omega)]
    exact tk t ht
def FAULT (μ : gM) : Prop := μ 1 7 = μ 267 8 ∧ μ 1 8 = μ 267 9
def THERE (μ : gM) : Prop := μ 4 0 = μ 267 15 ∧ (μ 4 0 = 0 ∨ μ 4 0 = 1)
/-- what net() leaves where the text is refused -/
def SameN (μ ν : gM) : Prop := (∀ a, a ≠ 1 → a < 18 ∨ 30 < a → a < 267 → ν a = μ a) ∧ (∀ a, 268 ≤ a → a ≠ 270 → ν a = μ a) ∧ ∀ i, i = 13 ∨ i = 14 ∨ i = 15 ∨ 17 ≤ i → ν 267 i = μ 267 i
/-- what it leaves behind a good text: the class up to begin(), the reference up to starts() -/
def NewN (μ μ1 μ2 : gM) : Prop := ∃ μ5 μ6 ξ9 : gM, fX4_forgetAll μ5 = some μ6 ∧ fX10_begin 34 μ6 = some μ1 ∧ J true 0 μ5 μ5 ∧ J true 0 μ5 μ6 ∧ J true 0 μ5 μ1 ∧ (∀ a, a ≠ 1 → a < 4 ∨ 30 < a → μ5 a = μ a) ∧ fX12_starts ξ9 = some μ2 ∧ (∀ a, a < 267 ∨ a = 268 ∨ a = 271 ∨ a = 272 ∨ a = 273 ∨ 275 ≤ a → ξ9 a = μ1 a) ∧ ξ9 274 0 = 0 ∧ ξ9 274 1 = 0 ∧ ξ9 267 20 = 0 ∧ ξ9 267 22 = μ 267 22 ∧ NET μ5 ξ9 ∧ μ2 269 = ξ9 269 ∧ μ5 4 0 = 1 ∧ μ2 267 15 = 1
theorem stepNetN {μ : gM} (h : Base μ) (ht : TAPE μ) (ho : ∀ k, k < 21 → μ 3 k = gOwn k) : ∃ (v : Int32) (μ1 μ2 : gM), fX11_net μ = some (v, μ1) ∧ fX12_net μ1 = some (v, μ2) ∧ Base μ2 ∧ (μ2 2 = μ 2 ∧ μ2 3 = μ 3 ∧ μ2 268 = μ 268) ∧ (μ2 1 2).toInt = 0 ∧ FAULT μ2 ∧ (SameN μ μ2 ∨ (NewN μ μ1 μ2 ∧ ∀ a, a < 267 → μ2 a = μ1 a)) := by
  obtain ⟨v, v2, μ1, μ2, e1, e2, hB, hs, hl⟩ := stepNet h
  have hx : ∀ a, 267 ≤ a → μ1 a = μ a := by
    obtain ⟨⟨v', μ1'⟩, e1', M', h1, h1'⟩ := tX11_net h.1.weak
    have h1 : J false 0 M' μ1' := h1
    rw [e1] at e1'
    obtain ⟨rfl, rfl⟩ := Prod.mk.inj (Option.some.inj e1')
    exact fun a ha => (h1.2.2.2 a (Or.inr (Or.inl ha))).trans (h1' a (by omega))
  have kk : K (μ1 267 2) μ1 μ1 := by
    have := h.k hx
    rw [← hx 267 (by decide)] at this
    exact this
  obtain ⟨w, μ', ξ', r1, r2, f1, f2, f3, f4, f5, c⟩ := pReadAll (ξ := μ1) h ht ho (hx 268 (by decide)) (by rw [hx 267 (by decide)]; exact h.2.2.symm) kk
  have e1' := e1
  have e2' := e2
  rw [r2] at e2'
  unfold fX11_net at e1'
  rw [r1, zBp_some, zLt_eq] at e1'
  suffices q : v = v2 ∧ FAULT μ2 ∧ (SameN μ μ2 ∨ (NewN μ μ1 μ2 ∧ ∀ a, a < 267 → μ2 a = μ1 a)) by
    obtain ⟨rfl, q2, q3⟩ := q
    exact ⟨v, μ1, μ2, e1, e2, hB, hs, hl, q2, q3⟩
  rcases c with ⟨rfl, b0, dr, g7, g8, k0⟩ | ⟨rfl, b0, g7, g8⟩
  · rw [if_neg one_n0] at e1'
    have h3 : J false 0 μ (gUp μ' 1 2 0) := by
      obtain ⟨r, er, pr⟩ := tX2_read h.1.weak
      rw [r1] at er
      obtain rfl := Option.some.inj er
      exact J.sl pr.1 (by decide) (by decide)
    obtain ⟨r, er, μ5, μ6, j5, e6, j6, e7, j7, v5, w5, cp⟩ := net_go3 h3
    rw [er] at e1'
    obtain rfl := Option.some.inj e1'
    have v5 : v = μ1 5 2 := v5
    have e7 : fX10_begin 34 μ6 = some μ1 := e7
    have j7 : J true 0 μ5 μ1 := j7
    have dr3 : DR (gUp μ' 1 2 0) ξ' := dr.fr (fun a ha => zUp_ne _ ha) (fun _ _ => rfl)
    have m5 : ∀ a, a ≠ 1 → a < 4 ∨ 30 < a → μ5 a = μ a := fun a h1 h2 => by rw [w5 a (by omega), zUp_ne _ h1, f1 a h1 (by omega)]
    have q5 : μ1 5 2 = μ' 19 2 := by rw [j7.2.2.2 5 (Or.inl ⟨by decide, by decide⟩), cp.2.1 2 (by decide), zUp_ne _ (by decide)]
    -- the reference
    unfold fX12_net_n92 at e2'
    obtain ⟨⟨x, ζ⟩, ez, rd⟩ := sX12_isRead (μ := ξ')
    have b0' : (ξ' 267 6).toInt = 0 := by rw [b0]; rfl
    have rd' := rd
    obtain ⟨d1, d2, d3, d4, -⟩ := rd
    have d1 : ∀ a, a ≠ 267 → ζ a = ξ' a := d1
    have d2 : ∀ i, i ≠ 8 → i ≠ 9 → ζ 267 i = ξ' 267 i := d2
    have d3 : ζ 267 8 = ξ' 267 6 := d3
    have d4 : x = 1 ∧ ζ 267 9 = -1 := d4 b0'
    have kz : K 0 ζ ζ := k0.rd rd'
    rw [ez, zBp_some, d4.1, if_neg one_n0] at e2'
    have big : zH (fX12_net_l103 100000 (0 : Int32) ζ) (fun r => ∃ ξ9, fX12_starts ξ9 = some r.2 ∧ K 0 ξ9 r.2 ∧ r.1 = r.2 269 2 ∧ (∀ a, a ≠ 267 → a ≠ 269 → a ≠ 274 → ξ9 a = ζ a) ∧ (∀ j, j < 209 → ξ9 269 j = ζ 270 j) ∧ (∀ i, i ≠ 15 → i ≠ 20 → ξ9 267 i = ζ 267 i) ∧ ξ9 267 15 = 1 ∧ ξ9 267 20 = 0 ∧ ξ9 274 0 = 0 ∧ ξ9 274 1 = 0) := by
      refine net_l103 100000 (0 : Int32) 0 ζ rfl (by decide) (by decide) (fun ν hν hj => ?_)
      simp only [zLt]
      generalize e9 : gUp (gUp (gUp (gUp ν 267 15 1) 267 20 0) 274 0 0) 274 1 0 = ξ9
      have w9 : ∀ a, a ≠ 267 → a ≠ 274 → ξ9 a = ν a := fun a h1 h2 => by rw [← e9, zUp_ne _ h2, zUp_ne _ h2, zUp_ne _ h1, zUp_ne _ h1]
      have s9 : ∀ i, i ≠ 15 → i ≠ 20 → ξ9 267 i = ν 267 i := fun i h1 h2 => by rw [← e9, zUp_ne _ (by decide), zUp_ne _ (by decide), zUp_slot _ h2, zUp_slot _ h1]
      have o15 : ξ9 267 15 = 1 := by rw [← e9, zUp_ne _ (by decide), zUp_ne _ (by decide), zUp_slot _ (by decide), zUp_same]
      have o20 : ξ9 267 20 = 0 := by rw [← e9, zUp_ne _ (by decide), zUp_ne _ (by decide), zUp_same]
      have o0 : ξ9 274 0 = 0 := by rw [← e9, zUp_slot _ (by decide), zUp_same]
      have o1 : ξ9 274 1 = 0 := by rw [← e9, zUp_same]
      have oj : ∀ j, j < 209 → ξ9 269 j = ζ 270 j := fun j hj' => by rw [w9 269 (by decide) (by decide), hj, if_pos ⟨Nat.zero_le _, hj'⟩]
      have k9 : K 0 ξ9 ξ9 := by
        obtain ⟨-, g2, ⟨c1, c2, c3, c4⟩, n1, n2, n3, n4, n5⟩ := kz
        refine ⟨⟨fun _ _ => rfl, rfl, rfl, rfl⟩, by rw [s9 2 (by decide) (by decide), hν 267 (by decide)]; exact g2, ⟨by rw [s9 3 (by decide) (by decide), hν 267 (by decide)]; exact c1, by rw [s9 4 (by decide) (by decide), hν 267 (by decide)]; exact c2, by rw [s9 11 (by decide) (by decide), hν 267 (by decide)]; exact c3, by rw [o20]; exact ⟨by decide, by decide⟩⟩, ?_⟩
        unfold KR
        rw [w9 270 (by decide) (by decide), w9 271 (by decide) (by decide), w9 272 (by decide) (by decide), w9 273 (by decide) (by decide), hν 270 (by decide), hν 271 (by decide), hν 272 (by decide), hν 273 (by decide)]
        exact ⟨n2.eq oj, n2, n3, n4, n5⟩
      obtain ⟨μ10, e10, k10⟩ := tX12_starts k9
      rw [e10, zBd_some]
      exact zH_some ⟨ξ9, e10, k10, rfl, fun a h1 h2 h3 => by rw [w9 a h1 h3, hν a h2], oj, fun i h1 h2 => by rw [s9 i h1 h2, hν 267 (by decide)], o15, o20, o0, o1⟩
    obtain ⟨r, er2, ξ9, s1, s2, s3, s4, s5, s6, s7, s8, s9, s10⟩ := big
    rw [er2] at e2'
    obtain rfl := Option.some.inj e2'
    have s1 : fX12_starts ξ9 = some μ2 := s1
    have s2 : K 0 ξ9 μ2 := s2
    have s3 : v2 = μ2 269 2 := s3
    have q3 : μ' 19 2 = ξ' 270 2 := dr.1.2.2.1
    have c2 : ∀ a, a < 267 → μ2 a = μ1 a := fun a ha => by rw [s2.1.1 a (Or.inl ha), s4 a (by omega) (by omega) (by omega), d1 a (by omega), f3 a (by omega) (by omega)]
    refine ⟨?_, ⟨?_, ?_⟩, Or.inr ⟨⟨μ5, μ6, ξ9, e6, e7, j5, j6, j7, m5, s1, fun a ha => ?_, s9, s10, s8, ?_, NET.of dr3 cp (fun j hj => by rw [s5 j hj, d1 270 (by decide)]), s2.1.1 269 (by omega), cp.1.1, by rw [s2.1.2.2.2, s7]⟩, c2⟩⟩
    · rw [v5, q5, q3, s3, s2.1.1 269 (by omega), s5 2 (by decide), d1 270 (by decide)]
    · rw [c2 1 (by decide), j7.2.2.2 1 (Or.inr (Or.inr ⟨rfl, by decide⟩)), w5 1 (by decide), zUp_slot _ (by decide), g7, s2.1.2.1, s6 8 (by decide) (by decide), d3, b0]
    · rw [c2 1 (by decide), j7.2.2.2 1 (Or.inr (Or.inr ⟨rfl, by decide⟩)), w5 1 (by decide), zUp_slot _ (by decide), g8, s2.1.2.2.1, s6 9 (by decide) (by decide), d4.2]
    · rw [s4 a (by omega) (by omega) (by omega), d1 a (by omega), f3 a (by omega) (by omega)]
    · rw [s6 22 (by decide) (by decide), d2 22 (by decide) (by decide), f4 22 (by decide) (by decide) (by decide) (by unfold pF; decide), hx 267 (by decide)]
  · rw [if_pos rfl] at e1'
    obtain ⟨rfl, rfl⟩ := Prod.mk.inj (Option.some.inj e1')
    unfold fX12_net_n92 at e2'
    obtain ⟨⟨x, ζ⟩, er, rd⟩ := sX12_isRead (μ := ξ')
    obtain ⟨d1, d2, d3, -, d5⟩ := rd
    have d1 : ∀ a, a ≠ 267 → ζ a = ξ' a := d1
    have d2 : ∀ i, i ≠ 8 → i ≠ 9 → ζ 267 i = ξ' 267 i := d2
    have d3 : ζ 267 8 = ξ' 267 6 := d3
    have d5 : x = 0 ∧ ζ 267 9 = ξ' 267 7 := d5 (fun w => b0 (Int32.toInt_inj.mp w))
    rw [er, zBp_some, if_pos d5.1] at e2'
    obtain ⟨rfl, rfl⟩ := Prod.mk.inj (Option.some.inj e2')
    refine ⟨rfl, ⟨?_, ?_⟩, Or.inl ⟨fun a h1 h2 h3 => ?_, fun a h1 h2 => ?_, fun i hi => ?_⟩⟩
    · rw [d1 1 (by decide), f3 1 (by decide) (by decide), zUp_slot _ (by decide), d3, g7]
    · rw [d1 1 (by decide), f3 1 (by decide) (by decide), zUp_slot _ (by decide), d5.2, g8]
    · rw [d1 a (by omega), f3 a (by omega) (by omega), zUp_ne _ h1, f1 a h1 h2]
    · rw [d1 a (by omega), f3 a (by omega) h2, hx a (by omega)]
    · have hp : ¬ pF i := by unfold pF; omega
      rw [d2 i (by omega) (by omega), f4 i (by omega) (by omega) (by omega) hp, hx 267 (by decide)]
