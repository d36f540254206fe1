/-! one group alone: the groups' turn, a tick -/
/-- another group's turn leaves the page as it is -/
theorem CTX.oth {s h : Nat} {F : Prop} {c c' : Int32} {μ ν ξ ξ' : gM} (hs : 34 ≤ s) (hh : h < 5) (x : CTX s False c μ ξ) (y : CTX s F c' ν ξ') (e : EG h ξ ξ') (ch : ξ 272 4 = 0) : CTX s False c μ ξ' := by
  have x5 := x.2.1.2.2.2.2.2
  have e9 : ξ' 272 9 = ξ 272 9 := e.2.1.2 ch
  exact x.mv hs hh (DG.rf s h μ) e (by rw [e9]; exact x5) ⟨x.2.2.2.1, y.2.2.2.2.1, fun f => absurd f id⟩
theorem EG.ch {h : Nat} {ξ ξ' : gM} (hh : h < 5) (e : EG h ξ ξ') : ξ' 272 4 = ξ 272 4 := e.2.2 4 (by omega) (by omega) (by omega) (by omega) (by omega) (by omega) (by omega) (by omega) (by omega)
theorem gAft {s g cn cl cg ct : Nat} {c c' : Int32} {μ : gM} (hs : 34 ≤ s) (hg : g < 5) : ∀ (m h : Nat) (ν ξ : gM), CTX s False c' ν ξ → NC ν ξ cn cl cg ct → GRS s ν ξ → CTX s False c μ ξ → GRP s g no l0 μ ξ → ξ 272 4 = 0 → g < h → h ≤ cg → 5 < h + m → ∃ ν' ξ', fX12_tickGoes_l47 m (nI h) ξ = fX12_tickGoes_l78 100000 (0 : Int32) (gUp ξ' 272 0 (ξ' 272 0 + 1)) ∧ CTX s False c' ν' ξ' ∧ GRS s ν' ξ' ∧ CTX s False c μ ξ' ∧ GRP s g no l0 μ ξ' ∧ ξ' 269 = ξ 269 := by
  intro m
  induction m with
  | zero => intro h ν ξ _ nc _ _ _ _ _ h1 h2; have := nc.1.2.2.1; omega
  | succ m ih =>
    intro h ν ξ y nc gs x u ch hgh h1 h2
    have b5 := nc.1.2.2.1
    rw [fX12_tickGoes_l47]
    unfold fX12_groups
    rw [zBd_some, nc.2.2.2.2.1]
    by_cases ck : h = cg
    · rw [if_pos ((nIle (by omega) (by omega)).mpr (by omega)), zLt_eq]
      exact ⟨ν, ξ, rfl, y, gs, x, u, rfl⟩
    · rw [if_neg (fun w => by have := (nIle (by omega) (by omega)).mp w; omega)]
      obtain ⟨S, ν1, ν2, ν3, ξ1, -, -, -, e4, y1, g1, d1, r1⟩ := pGroupGoes hs (by omega : h < 5) y (gs h (by omega))
      rw [e4, zBd_some, zLt_eq, show nI h + (1 : Int32) = nI (h + 1) from nI_1 h]
      have x9 : ξ1 269 = ξ 269 := r1.1 269 (by decide) (by decide) (by decide)
      obtain ⟨ν', ξ', f1, f2, f3, f4, f5, f6⟩ := ih (h + 1) ν3 ξ1 y1 (nc.mv hs d1 r1) (gs.mv (by omega) g1 d1 r1) (x.oth hs (by omega) y1 r1 ch) (u.fr (by omega) hg (by omega) (DG.rf s h μ) r1) (by rw [r1.ch (by omega)]; exact ch) (by omega) (by omega) (by omega)
      exact ⟨ν', ξ', f1, f2, f3, f4, f5, f6.trans x9⟩
theorem gBef {s g cn cl cg ct : Nat} {c c' : Int32} {μ : gM} (hs : 34 ≤ s) (hg : g < cg) : ∀ (m h : Nat) (ν ξ : gM), CTX s False c' ν ξ → NC ν ξ cn cl cg ct → GRS s ν ξ → CTX s False c μ ξ → GRP s g no l0 μ ξ → ξ 272 4 = 0 → h ≤ g → 5 < h + m → ∃ S μ1 μ2 μ3 ν' ξ', fX10_send s (nI g) μ = some (S, μ1) ∧ fX10_wind s (nI g) 1 μ1 = some μ2 ∧ fX10_deliver s (nI g) S μ2 = some μ3 ∧ DG s g μ μ3 ∧ fX12_tickGoes_l47 m (nI h) ξ = fX12_tickGoes_l78 100000 (0 : Int32) (gUp ξ' 272 0 (ξ' 272 0 + 1)) ∧ CTX s False c' ν' ξ' ∧ GRS s ν' ξ' ∧ CTX s False c μ3 ξ' ∧ GRP s g no l0 μ3 ξ' ∧ ξ' 269 = ξ 269 := by
  intro m
  induction m with
  | zero => intro h ν ξ _ nc _ _ _ _ h1 h2; have := nc.1.2.2.1; omega
  | succ m ih =>
    intro h ν ξ y nc gs x u ch h1 h2
    have b5 := nc.1.2.2.1
    rw [fX12_tickGoes_l47]
    unfold fX12_groups
    rw [zBd_some, nc.2.2.2.2.1, if_neg (fun w => by have := (nIle (by omega) (by omega)).mp w; omega)]
    obtain ⟨S, ν1, ν2, ν3, ξ1, -, -, -, e4, y1, g1, d1, r1⟩ := pGroupGoes hs (by omega : h < 5) y (gs h (by omega))
    have x9 : ξ1 269 = ξ 269 := r1.1 269 (by decide) (by decide) (by decide)
    rw [e4, zBd_some, zLt_eq, show nI h + (1 : Int32) = nI (h + 1) from nI_1 h]
    by_cases ck : h = g
    · subst ck
      obtain ⟨S', μ1, μ2, μ3, ξ2, a1, a2, a3, a4, x1, u1, da, ra⟩ := pGroupGoes hs (by omega : h < 5) x u
      rw [e4] at a4
      obtain rfl := Option.some.inj a4
      obtain ⟨ν', ξ', f1, f2, f3, f4, f5, f6⟩ := gAft hs (by omega : h < 5) m (h + 1) ν3 ξ1 y1 (nc.mv hs d1 r1) (gs.mv (by omega) g1 d1 r1) x1 u1 (by rw [r1.ch (by omega)]; exact ch) (by omega) (by omega) (by omega)
      exact ⟨S', μ1, μ2, μ3, ν', ξ', a1, a2, a3, da, f1, f2, f3, f4, f5, f6.trans x9⟩
    · obtain ⟨S', μ1, μ2, μ3, ν', ξ', f1, f2, f3, f4, f5, f6, f7, f8, f9, f10⟩ := ih (h + 1) ν3 ξ1 y1 (nc.mv hs d1 r1) (gs.mv (by omega) g1 d1 r1) (x.oth hs (by omega) y1 r1 ch) (u.fr (by omega) (by omega) (by omega) (DG.rf s h μ) r1) (by rw [r1.ch (by omega)]; exact ch) (by omega) (by omega)
      exact ⟨S', μ1, μ2, μ3, ν', ξ', f1, f2, f3, f4, f5, f6, f7, f8, f9, f10.trans x9⟩
/-- the reference has counted: nothing that the page shares -/
theorem CTX.tal {s : Nat} {c : Int32} {μ ξ ξ' : gM} (h : CTX s False c μ ξ) (y1 : ∀ a, a ≠ 272 → ξ' a = ξ a) (y2 : ∀ i, i < 130 ∨ 140 ≤ i → ξ' 272 i = ξ 272 i) : CTX s False c μ ξ' := by
  obtain ⟨hn, ⟨n0, n1, n2, n3, n4, n5⟩, hw, a1, a2, -⟩ := h
  refine ⟨hn.fr (fun _ _ _ => rfl) (y1 269 (by decide)), ⟨by rw [y2 0 (by decide)]; exact n0, by rw [y2 1 (by decide)]; exact n1, by rw [y2 2 (by decide)]; exact n2, by rw [y2 3 (by decide)]; exact n3, by rw [y2 4 (by decide)]; exact n4, by rw [y2 9 (by decide)]; exact n5⟩, fun g k m => ?_, a1, by rw [y2 7 (by decide)]; exact a2, fun f => absurd f id⟩
  rw [y1 269 (by decide)] at m
  have := m.1
  have := m.2.1
  rw [y1 269 (by decide), y2 2 (by decide), y2 (10 + (6 * g + k)) (by omega)]
  exact hw g k m
/-- the page of one group: a ghost of all groups runs beside it -/
def ONE (s g n cn cl cg ct : Nat) (μ ξ : gM) : Prop := ∃ c ν, RS s n False c cn cl cg ct ν ξ ∧ PGE s g μ ν ∧ (μ (s + 14) 2 = nI g ∧ (μ (s + 14) 3).toInt = (g : Int)) ∧ ξ 272 4 = 0 ∧ g < cg
theorem ONE.tick {s g n cn cl cg ct : Nat} {μ ξ : gM} (hs : 34 ≤ s) (h : ONE s g n cn cl cg ct μ ξ) (tb : 0 ≤ tkI ξ ∧ tkI ξ ≤ 100000) : ∃ μ' ξ', cTick s μ = some (1, μ') ∧ fX12_tickGoes ξ = some ξ' ∧ ONE s g n cn cl cg ct μ' ξ' ∧ TF s μ μ' ∧ RF ξ ξ' ∧ tkI ξ' = tkI ξ + 1 := by
  obtain ⟨c, ν, rs, p, ⟨w2, w3⟩, ch, hg⟩ := h
  obtain ⟨ν', ξ', t1, t2, rs', tfν, rf, tk⟩ := rs.tick hs tb
  obtain ⟨sr, nc, pn, rg, nx, px⟩ := rs
  have b5 := nc.1.2.2.1
  obtain ⟨p1, p2, p3, p4, p5, p6⟩ := id pn
  obtain ⟨q1, q2, q3, q4⟩ := px
  -- events
  obtain ⟨nx', νe, ξe, e1, e2, he, te, re, f0, fx, b1, f8, d1, d2⟩ := pHapB hs 100000 nx (100000 - nx) ν ξ sr nc pn q2 q4 q1 (by omega) (by omega)
  obtain ⟨μe, νe', x1, x2, pe, tμ⟩ := PGE.hapB hs 100000 nx μ ν ξ p sr nc pn q2 q1 (by omega)
  rw [e1] at x2
  obtain rfl := Option.some.inj x2
  have nce := nc.tf hs te re
  have che : ξe 272 4 = 0 := by rw [re.2.2 4 (by omega)]; exact ch
  -- the groups
  obtain ⟨S, μ1, μ2, μ3, νf, ξf, a1, a2, a3, da, a4, y, gs, x, u, x9⟩ := gBef hs hg 100000 0 νe ξe he.1 nce he.2.1 (pe.ctx he.1) (pe.grp (by omega) he.1.1 (he.2.1 g (by omega))) che (Nat.zero_le _) (by omega)
  obtain ⟨μ4, a5, k1, k2, -, -⟩ := cTally (s := s) (g := g) (n := 1) (μ := μ3) (by omega) u.h63
  -- the count
  have y2 := y.tick (v := ξf 272 0 + 1) hs
  have g2 := gs.tick (v := ξf 272 0 + 1)
  obtain ⟨ξ2, e3, z1, z2, -⟩ := mTal_l (s := s) (cg := cg) 100000 0 (gUp ξf 272 0 (ξf 272 0 + 1)) y2.1 (by rw [zUp_ne _ (by decide), x9]; exact nce.2.2.2.2.1) b5 g2 (Nat.zero_le _) (by decide)
  have es : fX12_tickGoes ξ = some ξ2 := by
    have a4' : fX12_tickGoes_l47 100000 (0 : Int32) ξe = some ξ2 := a4.trans e3
    unfold fX12_tickGoes
    rw [z32, show (100000 : Nat) = (100000 - nx) + nx by omega, mSkip p1 p3 nx (100000 - nx) 0 (by omega) (fun i _ h2 w => by have := q3 i (by omega); unfold atI tkI at this; rw [w] at this; omega), Nat.zero_add, e2, a4']
  rw [t2] at es
  obtain rfl := Option.some.inj es
  -- the page's tick
  have n0 : μ3 s 0 = ξf 272 0 := x.2.1.1
  have k4 : ∀ a, a ≠ s + 6 → a ≠ s + 7 → μ4 a = μ3 a := k1
  have d3 : ∀ i, i ≠ 4 → μ3 (s + 14) i = μe (s + 14) i := da.2.2.2.2
  have w2e : μe (s + 14) 2 = nI g := by rw [tμ.2 2 (by decide)]; exact w2
  have w3e : (μe (s + 14) 3).toInt = (g : Int) := by rw [tμ.2 3 (by decide)]; exact w3
  have tg : (nI g).toInt = g := tN (by omega)
  have tg1 : (nI (g + 1)).toInt = (g : Int) + 1 := (tN (by omega)).trans (by omega)
  have et : cTick s μ = some (1, gUp μ4 s 0 (ξf 272 0 + 1)) := by
    have m8 : μ s 8 = nI nx := (p.2.1 8 (by omega)).trans q2
    unfold cTick fX10_happen
    rw [zLt_eq, m8, x1, zBd_some, w2e, show (100000 : Nat) = 99998 + 1 + 1 from rfl, fX10_step_l26, if_neg (fun w => by have := Int32.lt_iff_toInt_lt.mp w; omega), a1, zBp_some, a2, zBd_some, a3, zBd_some, a5, zBd_some, zLt_eq, show nI g + (1 : Int32) = nI (g + 1) from nI_1 g, fX10_step_l26, if_pos (Int32.lt_iff_toInt_lt.mpr (by rw [k4 _ (by omega) (by omega), d3 3 (by decide), w3e, tg1]; omega)), zLt_eq, k4 s (by omega) (by omega), n0]
  have c4 : CTX s False 0 μ4 ξf := x.c67 hs k4
  have g4 : GRP s g no l0 μ4 ξf := u.cg (by omega) (fun a ha => k4 a (by omega) (by omega)) rfl (fun _ _ => rfl)
  have c5 := (c4.tick (v := ξf 272 0 + 1) hs).tal z1 z2
  have g5 : GRP s g no l0 (gUp μ4 s 0 (ξf 272 0 + 1)) ξ' := g4.cg (by omega) (fun a ha => zUp_ne _ (by omega)) (by rw [z1 269 (by decide), zUp_ne _ (by decide)]) (fun i hi => by rw [z2 i (by omega), zUp_slot _ (by omega)])
  have tt : TF s μ (gUp μ4 s 0 (ξf 272 0 + 1)) := (tμ.tr da.tf).tr ⟨fun a ha => by rw [zUp_ne _ (by omega), k4 a (by omega) (by omega)], fun i _ => by rw [zUp_ne _ (by omega), k4 _ (by omega) (by omega)]⟩
  obtain ⟨sr', nc', pn', rg', nx2, px'⟩ := id rs'
  refine ⟨_, ξ', et, t2, ⟨c, ν', rs', mkPGE (by omega) (fun a h1 h2 => ?_) ?_ ?_ c5 sr'.1 g5 (sr'.2.1 g (by omega)) (fun j hj => ?_), ⟨by rw [tt.2 2 (by decide)]; exact w2, by rw [tt.2 3 (by decide)]; exact w3⟩, by rw [rf.2.2 4 (by omega)]; exact ch, hg⟩, tt, rf, tk⟩
  · rw [tt.1 a (by omega), tfν.1 a (by omega)]
    exact p.1 a h1 h2
  · have m8 : gUp μ4 s 0 (ξf 272 0 + 1) s 8 = nI nx' := by
      rw [zUp_slot _ (by decide), k4 s (by omega) (by omega), da.2.1 8 (by decide) (by decide) (by decide), pe.2.1 8 (by omega)]
      exact f8
    obtain ⟨r1, r2, r3, r4⟩ := px'
    rw [m8, r2]
    have ek : ∀ i, i < 20 → atI ξ' i = atI ξ i := fun i hi => atI.mv rf hi
    have : nx' = nx2 := by
      rcases Nat.lt_trichotomy nx' nx2 with w | w | w
      · have a := r3 nx' w
        have b := d2 nx' (Nat.le_refl _) (by omega)
        rw [ek nx' (by omega)] at a
        omega
      · exact w
      · have a := r4 nx2 (Nat.le_refl _) (by omega)
        rw [ek nx2 (by omega)] at a
        by_cases cx : nx2 < nx
        · have b := q3 nx2 cx; omega
        · have b := d1 nx2 (by omega) w; omega
    rw [this]
  · rw [tt.1 (s + 1) (by omega), tt.1 (s + 2) (by omega), tfν.1 (s + 1) (by omega), tfν.1 (s + 2) (by omega)]
    exact p.2.2.1
  · rw [zUp_ne _ (by omega), k4 _ (by omega) (by omega)]
    by_cases e : j = g
    · subst e; exact u.h63
    · rw [(da.2.2.1 j e).1]; exact pe.2.2.2.2.2.2.2 j hj
