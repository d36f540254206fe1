/-! pages: one group or all; steps and runs -/
/-- while it is quiet only clocks and counts go on -/
def QUI (s : Nat) (μ μ' : gM) : Prop := (∀ a, a ≠ s → a ≠ s + 6 → a ≠ s + 7 → a ≠ s + 12 → μ' a = μ a) ∧ ∀ i, i ≠ 0 → μ' s i = μ s i
theorem QUI.rf (s : Nat) (μ : gM) : QUI s μ μ := ⟨fun _ _ _ _ _ => rfl, fun _ _ => rfl⟩
theorem cStep2 {s n nx lo hi : Nat} {most : Int32} {μ : gM} (hs : 34 ≤ s) (w : WS s n nx lo hi μ) (tb : (μ s 0).toInt + most.toInt ≤ 100000) : fX10_step s most μ = cTick s μ ∨ ∃ (q : Nat) (μ' : gM), 1 ≤ q ∧ (q : Int) ≤ most.toInt ∧ fX10_step s most μ = some (nI q, μ') ∧ cTk s q μ = some μ' ∧ ∀ i, i ≤ q → ∃ μi, cTk s i μ = some μi ∧ QUI s μ μi := by
  obtain ⟨hb, ⟨l1, l2, l3, l4⟩, ⟨n1, n2, n3, n4⟩, t1, t2⟩ := id w
  obtain ⟨q, e, q1, q2, q3⟩ := cQuiet (most := most) l4 (by omega) l1 l2 n1 n2 n3 n4
  have z : (0 : Int32).toInt = 0 := rfl
  unfold fX10_step
  rw [e, zBd_some]
  by_cases c : q ≤ 0
  · rw [if_pos c]
    exact Or.inl rfl
  · have qp : 0 < q.toInt := by
      have : ¬ q.toInt ≤ (0 : Int32).toInt := fun w => c (Int32.le_iff_toInt_le.mpr w)
      omega
    obtain ⟨k, hk⟩ : ∃ k : Nat, q.toInt = ((k + 1 : Nat) : Int) := ⟨q.toInt.toNat - 1, by omega⟩
    have eq : q = nI (k + 1) := nI_of' hk
    have cl := q3 qp
    have hq : nx < n → (μ s 0).toInt + q.toInt ≤ (μ (s + 2) (5 * nx)).toInt := fun h => by
      have a := q2 h
      have b := t2 h
      rw [iS rfl rfl (by omega) (by omega)] at a
      omega
    have it : ∀ i, i ≤ k → cTk s (i + 1) μ = some (gUp (pq s lo hi (nI (i + 1)) μ) s 0 (μ s 0 + nI (i + 1))) := fun i hi => quietIter hs i μ w (fun g' j h1 h2 h3 h4 => by have := cl g' j h1 h2 h3 h4; omega) (fun h => by have := hq h; omega) (by omega)
    refine Or.inr ⟨k + 1, _, by omega, by omega, ?_, it k (Nat.le_refl _), fun i hi => ?_⟩
    · rw [if_neg c]
      unfold fX10_passQuietly
      rw [zLt_eq, l1, cPQ_l hs l4 100000 lo μ hb l2 l3 (by omega), zBd_some, eq]
    · by_cases i0 : i = 0
      · subst i0
        exact ⟨μ, rfl, QUI.rf _ _⟩
      · obtain ⟨j, rfl⟩ : ∃ j, i = j + 1 := ⟨i - 1, by omega⟩
        exact ⟨_, it j (by omega), fun a h1 h2 h3 h4 => by rw [zUp_ne _ h1, pq_f h4 h2 h3], fun a ha => by rw [zUp_slot _ ha, pq_f (by omega) (by omega) (by omega)]⟩
def PGD (s g n cn cl cg ct : Nat) (μ ξ : gM) : Prop := (∃ c, RS s n False c cn cl cg ct μ ξ ∧ g < cg) ∨ ONE s g n cn cl cg ct μ ξ
theorem PGD.tick {s g n cn cl cg ct : Nat} {μ ξ : gM} (hs : 34 ≤ s) (h : PGD s g n cn cl cg ct μ ξ) (tb : 0 ≤ tkI ξ ∧ tkI ξ ≤ 100000) : ∃ μ' ξ', cTick s μ = some (1, μ') ∧ fX12_tickGoes ξ = some ξ' ∧ PGD s g n cn cl cg ct μ' ξ' ∧ TF s μ μ' ∧ RF ξ ξ' ∧ tkI ξ' = tkI ξ + 1 := by
  rcases h with ⟨c, h, hg⟩ | h
  · obtain ⟨μ', ξ', e1, e2, e3, e4, e5, e6⟩ := h.tick hs tb
    exact ⟨μ', ξ', e1, e2, Or.inl ⟨c, e3, hg⟩, e4, e5, e6⟩
  · obtain ⟨μ', ξ', e1, e2, e3, e4, e5, e6⟩ := h.tick hs tb
    exact ⟨μ', ξ', e1, e2, Or.inr e3, e4, e5, e6⟩
theorem PGD.ticks {s g n cn cl cg ct : Nat} (hs : 34 ≤ s) : ∀ (q : Nat) (μ ξ : gM), PGD s g n cn cl cg ct μ ξ → 0 ≤ tkI ξ → tkI ξ + (q : Int) ≤ 100000 → ∃ μ' ξ', cTk s q μ = some μ' ∧ mTk q ξ = some ξ' ∧ PGD s g n cn cl cg ct μ' ξ' ∧ TF s μ μ' ∧ RF ξ ξ' ∧ tkI ξ' = tkI ξ + (q : Int) := by
  intro q
  induction q with
  | zero => intro μ ξ h t0 tb; exact ⟨μ, ξ, rfl, rfl, h, TF.rf _ _, RF.rf _, by omega⟩
  | succ q ih =>
    intro μ ξ h t0 tb
    obtain ⟨μ1, ξ1, e1, e2, h1, t1, r1, k1⟩ := h.tick hs ⟨t0, by omega⟩
    obtain ⟨μ', ξ', f1, f2, h2, t2, r2, k2⟩ := ih μ1 ξ1 h1 (by omega) (by omega)
    refine ⟨μ', ξ', ?_, ?_, h2, t1.tr t2, r1.tr r2, by omega⟩
    · rw [cTk, e1, zBp_some, f1]
    · rw [mTk, e2, zBd_some, f2]
theorem PGD.nc {s g n cn cl cg ct : Nat} {μ ξ : gM} (h : PGD s g n cn cl cg ct μ ξ) : NC μ ξ cn cl cg ct ∧ g < cg := by
  rcases h with ⟨c, h, hg⟩ | ⟨c, ν, rs, p, -, -, hg⟩
  · exact ⟨h.2.1, hg⟩
  · exact ⟨rs.2.1.fr (p.1 4 (by decide) (by decide)) (p.1 5 (by decide) (by decide)) rfl, hg⟩
theorem PGD.cg {s g n cn cl cg ct : Nat} {μ ξ : gM} (h : PGD s g n cn cl cg ct μ ξ) : ∃ c, CTX s False c μ ξ ∧ GRP s g no l0 μ ξ := by
  have hg := h.nc
  have b5 := hg.1.1.2.2.1
  rcases h with ⟨c, h, -⟩ | ⟨c, ν, rs, p, -, -, -⟩
  · exact ⟨c, h.1.1, h.1.2.1 g (by omega)⟩
  · exact ⟨0, p.ctx rs.1.1, p.grp (by omega) rs.1.1.1 (rs.1.2.1 g (by omega))⟩
theorem PGD.ws {s g n cn cl cg ct : Nat} {μ ξ : gM} (h : PGD s g n cn cl cg ct μ ξ) (tb : 0 ≤ tkI ξ ∧ tkI ξ ≤ 100000) : ∃ nx lo hi, WS s n nx lo hi μ := by
  rcases h with ⟨c, h, hg⟩ | ⟨c, ν, rs, p, ⟨w2, w3⟩, ch, hg⟩
  · obtain ⟨nx, w⟩ := h.ws tb
    exact ⟨nx, 0, cg, w⟩
  · obtain ⟨nx, hb, -, ⟨n1, n2, n3, n4⟩, t1, t2⟩ := rs.ws tb
    have b5 := rs.2.1.1.2.2.1
    have e0 : μ s 0 = ν s 0 := p.2.1 0 (by omega)
    refine ⟨nx, g, g + 1, p.2.2.2.2.2.2.2, ⟨w2, by omega, by omega, by omega⟩, ⟨n1, n2, p.2.2.1.1.trans n3, (p.2.1 8 (by omega)).trans n4⟩, by rw [e0]; exact t1, fun hn => ?_⟩
    rw [e0, p.2.2.1.2 _ (by omega)]
    exact t2 hn
/-- a step of the class against as many ticks of the reference; between them nothing changes hands -/
theorem PGD.step {s g n cn cl cg ct d : Nat} {μ ξ : gM} (hs : 34 ≤ s) (h : PGD s g n cn cl cg ct μ ξ) (d1 : 1 ≤ d) (d2 : d ≤ 900) (t0 : 0 ≤ tkI ξ) (tb : tkI ξ + (d : Int) ≤ 100000) : ∃ q μ' ξ', 1 ≤ q ∧ q ≤ d ∧ fX10_step s (nI d) μ = some (nI q, μ') ∧ mTk q ξ = some ξ' ∧ PGD s g n cn cl cg ct μ' ξ' ∧ TF s μ μ' ∧ RF ξ ξ' ∧ tkI ξ' = tkI ξ + (q : Int) ∧ ∀ i, i < q → ∃ μi ξi, mTk i ξ = some ξi ∧ PGD s g n cn cl cg ct μi ξi ∧ QUI s μ μi ∧ tkI ξi = tkI ξ + (i : Int) := by
  obtain ⟨nx, lo, hi, w⟩ := h.ws ⟨t0, by omega⟩
  have td : (nI d).toInt = d := tN (by omega)
  have n0 : μ s 0 = ξ 272 0 := by
    obtain ⟨c, x, -⟩ := h.cg
    exact x.2.1.1
  rcases cStep2 (most := nI d) hs w (by rw [n0, td]; exact tb) with e | ⟨q, μ1, q1, q2, e1, e2, e3⟩
  · obtain ⟨μ1, ξ1, a1, a2, a3, a4, a5, a6⟩ := h.tick hs ⟨t0, by omega⟩
    refine ⟨1, μ1, ξ1, by omega, by omega, by rw [e, a1]; rfl, by rw [mTk, a2, zBd_some, mTk], a3, a4, a5, by omega, fun i hi => ?_⟩
    have : i = 0 := by omega
    subst this
    exact ⟨μ, ξ, rfl, h, QUI.rf _ _, by omega⟩
  · obtain ⟨μq, ξq, f1, f2, hq, tq, rq, kq⟩ := PGD.ticks hs q μ ξ h t0 (by omega)
    rw [e2] at f1
    obtain rfl := Option.some.inj f1
    refine ⟨q, μ1, ξq, q1, by omega, e1, f2, hq, tq, rq, kq, fun i hi => ?_⟩
    obtain ⟨μi, ξi, g1, g2, g3, -, -, g6⟩ := PGD.ticks hs i μ ξ h t0 (by omega)
    obtain ⟨μi', g1', qe⟩ := e3 i (by omega)
    rw [g1] at g1'
    obtain rfl := Option.some.inj g1'
    exact ⟨μi, ξi, g2, g3, qe, g6⟩
theorem PGD.run_l {s g n cn cl cg ct N : Nat} (hs : 34 ≤ s) (hN : N ≤ 900) : ∀ (d m y : Nat) (μ ξ : gM), y + d = N → d < m → PGD s g n cn cl cg ct μ ξ → 0 ≤ tkI ξ → tkI ξ + (d : Int) ≤ 100000 → ∃ μ' ξ', fX10_run_l2 s m (nI N) (nI y) μ = some μ' ∧ mTk d ξ = some ξ' ∧ PGD s g n cn cl cg ct μ' ξ' ∧ TF s μ μ' ∧ RF ξ ξ' ∧ tkI ξ' = tkI ξ + (d : Int) := by
  intro d
  induction d using Nat.strongRecOn with
  | _ d ih =>
    intro m y μ ξ hy hm h t0 tb
    obtain ⟨m, rfl⟩ : ∃ m', m = m' + 1 := ⟨m - 1, by omega⟩
    rw [fX10_run_l2]
    by_cases d0 : d = 0
    · subst d0
      rw [if_pos ((nIle (by omega) (by omega)).mpr (by omega))]
      exact ⟨μ, ξ, rfl, rfl, h, TF.rf _ _, RF.rf _, by omega⟩
    · have es : nI N - nI y = nI d := by rw [pk_sub (by omega), show N - y = d by omega]
      obtain ⟨q, μ1, ξ1, q1, q2, e1, e2, h1, t1, r1, k1, -⟩ := h.step hs (d := d) (by omega) (by omega) t0 tb
      rw [if_neg (fun w => by have := (nIle (by omega) (by omega)).mp w; omega), es, e1, zBp_some, zLt_eq, zMx_n q1 (by omega), nI_add]
      obtain ⟨μ', ξ', g1, g2, h2, t2, r2, k2⟩ := ih (d - q) (by omega) m (y + q) μ1 ξ1 (by omega) (by omega) h1 (by omega) (by omega)
      refine ⟨μ', ξ', g1, ?_, h2, t1.tr t2, r1.tr r2, by omega⟩
      rw [show d = q + (d - q) by omega, mTk_add q (d - q) ξ ξ1 e2]
      exact g2
theorem PGD.run {s g n cn cl cg ct N : Nat} {μ ξ : gM} (hs : 34 ≤ s) (hN : N ≤ 900) (h : PGD s g n cn cl cg ct μ ξ) (t0 : 0 ≤ tkI ξ) (tb : tkI ξ + (N : Int) ≤ 100000) : ∃ μ' ξ', fX10_run s (nI N) μ = some μ' ∧ fX12_goes (nI N) ξ = some ξ' ∧ PGD s g n cn cl cg ct μ' ξ' ∧ TF s μ μ' ∧ RF ξ ξ' := by
  obtain ⟨μ', ξ', e1, e2, h', t, r, -⟩ := PGD.run_l hs hN N 100000 0 μ ξ (by omega) (by omega) h t0 tb
  refine ⟨μ', ξ', ?_, ?_, h', t, r⟩
  · unfold fX10_run
    exact e1
  · unfold fX12_goes
    exact (mGoesL N 100000 N 0 ξ hN (by omega) (by omega)).trans e2
/-- acts on a page -/
theorem RS.ef {s n cn cl cg ct : Nat} {F : Prop} {c : Int32} {μ ξ μ' ξ' : gM} (hs : 34 ≤ s) (h : RS s n F c cn cl cg ct μ ξ) (sr : SR s F c μ' ξ') (e : EF s μ ξ μ' ξ') : RS s n F c cn cl cg ct μ' ξ' := by
  obtain ⟨-, nc, pn, rg, nx, px⟩ := h
  obtain ⟨t, r, e0, e8, x0⟩ := e
  have et : tkI ξ' = tkI ξ := by unfold tkI; rw [x0]
  have n20 := pn.1
  refine ⟨sr, nc.tf hs t r, pn.mv t r, rg.tf t, nx, px.1, by rw [e8]; exact px.2.1, fun k hk => ?_, fun k k1 k2 => ?_⟩
  · rw [et, atI.mv r (by have := px.1; omega)]
    exact px.2.2.1 k hk
  · rw [et, atI.mv r (by omega)]
    exact px.2.2.2 k k1 k2
theorem AR.c4 {ξ ξ' : gM} (r : RF ξ ξ') : ξ' 272 4 = ξ 272 4 := r.2.2 4 (by omega)
theorem ONE.mk' {s g n cn cl cg ct : Nat} {c : Int32} {μ ν ξ ξ' μ' : gM} (rs : RS s n False c cn cl cg ct ν ξ') (p : PGE s g μ' ν) (t : TF s μ μ') (w : μ (s + 14) 2 = nI g ∧ (μ (s + 14) 3).toInt = (g : Int)) (r : RF ξ ξ') (ch : ξ 272 4 = 0) (hg : g < cg) : ONE s g n cn cl cg ct μ' ξ' := ⟨c, ν, rs, p, ⟨by rw [t.2 2 (by decide)]; exact w.1, by rw [t.2 3 (by decide)]; exact w.2⟩, by rw [AR.c4 r]; exact ch, hg⟩
theorem PGD.low {s g n cn cl cg ct k : Nat} {μ ξ : gM} (hs : 34 ≤ s) (h : PGD s g n cn cl cg ct μ ξ) (hk : k < cn) : ∃ v w μ' ξ', fX10_lower s (nI k) 0 μ = some (v, μ') ∧ fX12_goesDown (nI k) 0 ξ = some (w, ξ') ∧ PGD s g n cn cl cg ct μ' ξ' ∧ TF s μ μ' ∧ ξ' 272 0 = ξ 272 0 ∧ ξ' 272 1 = (ξ 272 1 &&& (((1 : Int32) <<< (nI k &&& 31)) ^^^ (-1 : Int32))) := by
  have b6 := h.nc.1.1.1
  rcases h with ⟨c, h, hg⟩ | ⟨c, ν, rs, p, w, ch, hg⟩
  · obtain ⟨v, μ', ξ', e1, e2, sr, a, r, u⟩ := pLower (y2 := 0) hs h.1 h.2.1 hk (Or.inl rfl)
    exact ⟨v, v, μ', ξ', e1, e2, Or.inl ⟨c, h.ef hs sr (EF.of a r), hg⟩, a.tf, r.2.2 0 (by omega), u⟩
  · obtain ⟨v, ν', ξ', e1, e2, sr, a, r, u⟩ := pLower (y2 := 0) hs rs.1 rs.2.1 hk (Or.inl rfl)
    obtain ⟨v1, v2, μ', ν2, x1, x2, q, a1, -⟩ := p.low hs (by omega : k < 6) rs.2.1.1.2.2.1 rs.2.1.2.1.2.2.1
    rw [e1] at x2
    obtain ⟨-, rfl⟩ := Prod.mk.inj (Option.some.inj x2)
    exact ⟨v1, v, μ', ξ', x1, e2, Or.inr (ONE.mk' (rs.ef hs sr (EF.of a r)) q a1.tf w r.rf' ch hg), a1.tf, r.2.2 0 (by omega), u⟩
theorem PGD.rise {s g n cn cl cg ct k : Nat} {μ ξ : gM} (hs : 34 ≤ s) (h : PGD s g n cn cl cg ct μ ξ) (hk : k < cn) (dn : bt (ξ 272 1) k = false) : ∃ μ' ξ', fX10_raise s ((1 : Int32) <<< (nI k &&& 31)) μ = some μ' ∧ fX12_comesUp (nI k) ξ = some ξ' ∧ PGD s g n cn cl cg ct μ' ξ' ∧ TF s μ μ' ∧ ξ' 272 0 = ξ 272 0 := by
  have b6 := h.nc.1.1.1
  rcases h with ⟨c, h, hg⟩ | ⟨c, ν, rs, p, w, ch, hg⟩
  · obtain ⟨μ', ξ', e1, e2, sr, a, r, -⟩ := pRaise hs h.1 h.2.1 hk dn rfl
    exact ⟨μ', ξ', e1, e2, Or.inl ⟨c, h.ef hs sr (EF.of a r), hg⟩, a.tf, r.2.2 0 (by omega)⟩
  · obtain ⟨ν', ξ', e1, e2, sr, a, r, -⟩ := pRaise hs rs.1 rs.2.1 hk dn rfl
    obtain ⟨μ', ν2, x1, x2, q, a1, -⟩ := p.rise hs (by omega : k < 6) rs.2.1.1.2.2.1 rs.2.1.2.1.2.2.1 rfl
    rw [e1] at x2
    obtain rfl := Option.some.inj x2
    exact ⟨μ', ξ', x1, e2, Or.inr (ONE.mk' (rs.ef hs sr (EF.of a r)) q a1.tf w r.rf' ch hg), a1.tf, r.2.2 0 (by omega)⟩
theorem PGD.cuts {s g n cn cl cg ct : Nat} {v : Int32} {μ ξ : gM} (hs : 34 ≤ s) (h : PGD s g n cn cl cg ct μ ξ) : ∃ μ', fX10_setCuts s v μ = some μ' ∧ PGD s g n cn cl cg ct μ' (gUp ξ 272 2 v) ∧ TF s μ μ' := by
  rcases h with ⟨c, h, hg⟩ | ⟨c, ν, rs, p, w, ch, hg⟩
  · obtain ⟨μ', e1, sr, ef, -⟩ := SR.cuts (v := v) hs h.1
    exact ⟨μ', e1, Or.inl ⟨c, h.ef hs sr ef, hg⟩, ef.1⟩
  · obtain ⟨ν', e1, sr, ef, -⟩ := SR.cuts (v := v) hs rs.1
    obtain ⟨μ', ν2, x1, x2, q, t⟩ := p.cuts (v := v) hs rs.1.1.1
    rw [e1] at x2
    obtain rfl := Option.some.inj x2
    exact ⟨μ', x1, Or.inr (ONE.mk' (rs.ef hs sr ef) q t w ef.2.1 ch hg), t⟩
theorem PGD.tell {s g n cn cl cg ct h k : Nat} {v : Int32} {μ ξ : gM} (hs : 34 ≤ s) (x : PGD s g n cn cl cg ct μ ξ) (m : mem (ξ 269) h k) (b : 1 ≤ v.toInt ∧ v.toInt ≤ 255) : ∃ μ', fX10_tell s (nI h) (nI k) v μ = some μ' ∧ PGD s g n cn cl cg ct μ' (gUp ξ 272 (10 + (6 * h + k)) v) ∧ TF s μ μ' := by
  rcases x with ⟨c, x, hg⟩ | ⟨c, ν, rs, p, w, ch, hg⟩
  · obtain ⟨μ', e1, sr, ef, -⟩ := SR.tell hs x.1 m b
    exact ⟨μ', e1, Or.inl ⟨c, x.ef hs sr ef, hg⟩, ef.1⟩
  · obtain ⟨ν', e1, sr, ef, -⟩ := SR.tell hs rs.1 m b
    obtain ⟨μ', ν2, x1, x2, q, t⟩ := p.tell (v := v) hs rs.1.1.1 m
    rw [e1] at x2
    obtain rfl := Option.some.inj x2
    exact ⟨μ', x1, Or.inr (ONE.mk' (rs.ef hs sr ef) q t w ef.2.1 ch hg), t⟩
