/-! settles: alike, as long as the moves' count is far from its end -/
theorem RS.stepQ {s n cn cl cg ct d : Nat} {F : Prop} {c : Int32} {μ ξ : gM} (hs : 34 ≤ s) (h : RS s n F c cn cl cg ct μ ξ) (d1 : 1 ≤ d) (d2 : d ≤ 900) (t0 : 0 ≤ tkI ξ) (tb : tkI ξ + (d : Int) ≤ 100000) : ∃ q μ' ξ', 1 ≤ q ∧ q ≤ d ∧ fX10_step s (nI d) μ = some (nI q, μ') ∧ mTk q ξ = some ξ' ∧ RS s n F c cn cl cg ct μ' ξ' ∧ (q = 1 ∨ ∀ i, i ≤ q → ∃ μi ξi, mTk i ξ = some ξi ∧ RS s n F c cn cl cg ct μi ξi ∧ QUI s μ μi) := by
  have n0 : μ s 0 = ξ 272 0 := h.1.1.2.1.1
  obtain ⟨nx, ws⟩ := h.ws ⟨t0, by omega⟩
  have td : (nI d).toInt = d := tN (by omega)
  rcases cStep2 (most := nI d) hs ws (by rw [n0, td]; exact tb) with e | ⟨q, μ1, q1, q2, e1, e2, e3⟩
  · obtain ⟨μ1, ξ1, a1, a2, a3, -⟩ := h.tick hs ⟨t0, by omega⟩
    exact ⟨1, μ1, ξ1, by omega, by omega, by rw [e, a1]; rfl, by rw [mTk, a2, zBd_some, mTk], a3, Or.inl rfl⟩
  · obtain ⟨μq, ξq, f1, f2, hq, -⟩ := h.ticks hs q μ ξ t0 (by omega)
    rw [e2] at f1
    obtain rfl := Option.some.inj f1
    refine ⟨q, μ1, ξq, q1, by omega, e1, f2, hq, Or.inr (fun i hi => ?_)⟩
    obtain ⟨μi, ξi, g1, g2, g3, -⟩ := h.ticks hs i μ ξ t0 (by omega)
    obtain ⟨μi', g1', qe⟩ := e3 i hi
    rw [g1] at g1'
    obtain rfl := Option.some.inj g1'
    exact ⟨μi, ξi, g2, g3, qe⟩
/-- quiet ticks of the reference -/
theorem le500 {a : Nat} (h : a < 1000) : nI a ≤ (500 : Int32) ↔ a ≤ 500 := nIle (b := 500) h (by omega)
theorem ge600 {a : Nat} (h : a < 1000) : (600 : Int32) ≤ nI a ↔ 600 ≤ a := nIle (a := 600) (by omega) h
theorem ge100 {a : Nat} (h : a < 1000) : (100 : Int32) ≤ nI a ↔ 100 ≤ a := nIle (a := 100) (by omega) h
theorem gt500 {a : Nat} (h : a < 1000) : (500 : Int32) < nI a ↔ 500 < a := by
  rw [Int32.lt_iff_toInt_lt, tN (by omega), show (500 : Int32).toInt = 500 from rfl]
  omega
/-- quiet ticks of the reference, one by one -/
theorem mSetQ {a b q M : Nat} {ξ : gM} (ha : a ≤ 500) (hb : b + q ≤ 900) (hq : b + q ≤ a + 100) (al : ∀ i, i ≤ q → ∃ ξi, mTk i ξ = some ξi ∧ ξi 267 22 = ξ 267 22) : ∀ j, j ≤ q → ∃ ξj, mTk j ξ = some ξj ∧ fX12_settles_l32 (M + j) (nI a) (nI b) ξ = fX12_settles_l32 M (nI a) (nI (b + j)) ξj := by
  intro j
  induction j generalizing M with
  | zero => intro _; exact ⟨ξ, rfl, rfl⟩
  | succ j ih =>
    intro hj
    obtain ⟨ξj, e1, e2⟩ := ih (M := M + 1) (by omega)
    obtain ⟨ξi, a1, a2⟩ := al (j + 1) hj
    obtain ⟨ξj', b1, b2⟩ := al j (by omega)
    rw [e1] at b1
    obtain rfl := Option.some.inj b1
    have tg := mTk_s e1 a1
    refine ⟨ξi, a1, ?_⟩
    have s100 : nI a + (100 : Int32) = nI (a + 100) := by rw [show (100 : Int32) = nI 100 from rfl, nI_add]
    rw [show M + (j + 1) = M + 1 + j by omega, e2, fX12_settles_l32, s100, if_neg (fun w => by have := (nIle (by omega) (by omega)).mp w; omega), zLt_eq, tg, zBd_some, zLt_eq, a2, b2, if_pos (Int32.le_refl _), nI_1, Nat.add_assoc b]
    unfold fX12_settles_n62
    rw [if_pos ((le500 (by omega)).mpr ha)]
theorem nI_ne {d : Nat} (h : d < 2147483648) (e : nI d = 0) : d = 0 := nI_inj (by omega) (by decide) e
theorem pSettles_l (L : lq_all) {n cn cl cg ct ch M0 : Nat} {c : Int32} {ξ0 : gM} (t0 : 0 ≤ tkI ξ0) (t9 : tkI ξ0 + 600 ≤ 9999) (m0 : ξ0 267 22 = nI M0) (hM : M0 ≤ 2147400000) : ∀ (d m b a : Nat) (μ ξ : gM), b + d = 600 → d + 1 < m → a ≤ 500 → a ≤ b → RS 249 n True c cn cl cg ct μ ξ → nAcc n cn cl cg ct ch ξ0 b ξ → ∃ v μ' ξ', fX3_calmFrom_l8 m (nI a) (nI b) μ = some (v, μ') ∧ ∀ m2, d < m2 → fX12_settles_l32 m2 (nI a) (nI b) ξ = some (v, ξ') := by
  intro d
  induction d using Nat.strongRecOn with
  | _ d ih =>
    intro m b a μ ξ hb hm ha hab h ac
    obtain ⟨m, rfl⟩ : ∃ m', m = m' + 1 := ⟨m - 1, by omega⟩
    have s100 : nI a + (100 : Int32) = nI (a + 100) := by rw [show (100 : Int32) = nI 100 from rfl, nI_add]
    have n77 : ∀ κ, fX3_calmFrom_n77 (nI a) κ = some (nI a, κ) := fun κ => by
      unfold fX3_calmFrom_n77
      rw [if_neg (show ¬ (500 : Int32) < nI a from fun w => by have := (gt500 (by omega)).mp w; omega)]
    have bad : ∀ (m k l : Nat) κ, 500 < k → k < 1000 → l < 1000 → 0 < m → fX3_calmFrom_l8 m (nI k) (nI l) κ = some (-1, κ) := fun m k l κ h1 h2 h3 h4 => by
      obtain ⟨m, rfl⟩ : ∃ m', m = m' + 1 := ⟨m - 1, by omega⟩
      have l5 : (500 : Int32) < nI k := (gt500 (by omega)).mpr h1
      have e7 : fX3_calmFrom_n77 (nI k) κ = some (-1, κ) := by unfold fX3_calmFrom_n77; rw [if_pos l5]
      rw [fX3_calmFrom_l8]
      by_cases w : (600 : Int32) ≤ nI l
      · rw [if_pos w]; exact e7
      · rw [if_neg w, if_pos l5]; exact e7
    by_cases far : a + 100 ≤ b
    · obtain ⟨ξ3, q1, -⟩ := mFromP (v := nI a) (ξ := ξ)
      refine ⟨nI a, μ, ξ3, ?_, fun m2 h2 => ?_⟩
      · rw [fX3_calmFrom_l8]
        by_cases w : (600 : Int32) ≤ nI b
        · rw [if_pos w]; exact n77 μ
        · rw [if_neg w, if_neg (show ¬ (500 : Int32) < nI a from fun w => by have := (gt500 (by omega)).mp w; omega), pk_sub (by omega), if_pos ((ge100 (by omega)).mpr (by omega))]
          exact n77 μ
      · obtain ⟨m2, rfl⟩ : ∃ m', m2 = m' + 1 := ⟨m2 - 1, by omega⟩
        rw [fX12_settles_l32, s100, if_pos ((nIle (by omega) (by omega)).mpr far), q1, zBp_some]
    · have tk : tkI ξ = tkI ξ0 + (b : Int) := ac.2.1
      obtain ⟨q, μ1, ξ1, q1, q2, e1, e2, h1, alt⟩ := h.stepQ (by decide) (d := d) (by omega) (by omega) (by omega) (by omega)
      have es : (600 : Int32) - nI b = nI d := by rw [show (600 : Int32) = nI 600 from rfl, pk_sub (by omega), show 600 - b = d by omega]
      have cls : fX3_calmFrom_l8 (m + 1) (nI a) (nI b) μ = if μ1 263 4 = μ 263 4 then fX3_calmFrom_l8 m (nI a) (nI (b + q)) μ1 else fX3_calmFrom_l8 m (nI (b + q)) (nI (b + q)) μ1 := by
        rw [fX3_calmFrom_l8, if_neg (fun w => by have := (ge600 (by omega)).mp w; omega), if_neg (show ¬ (500 : Int32) < nI a from fun w => by have := (gt500 (by omega)).mp w; omega), pk_sub (by omega), if_neg (fun w => by have := (ge100 (by omega)).mp w; omega), zLt_eq, es, e1, zBp_some, zLt_eq, zMx_n q1 (by omega), nI_add]
      have st : μ 263 4 = ξ 267 22 + c := (h.1.1.2.2.2.2.2 trivial).2.2.2
      have st1 : μ1 263 4 = ξ1 267 22 + c := (h1.1.1.2.2.2.2.2 trivial).2.2.2
      have ac1 : nAcc n cn cl cg ct ch ξ0 (b + q) ξ1 := nAcc.mk L ⟨t0, by omega⟩ q b ξ ξ1 ac (by omega) e2
      have canc : ∀ x y : Int32, x + c = y + c → x = y := fun x y w => by
        have := congrArg (fun z => z - c) w
        simpa using this
      rcases alt with rfl | al
      · -- one tick
        have tg : fX12_tickGoes ξ = some ξ1 := by
          rw [mTk] at e2
          obtain ⟨ξ', f1, f2⟩ := bdI e2
          rw [mTk] at f2
          obtain rfl := Option.some.inj f2
          exact f1
        obtain ⟨mv, v1, v2⟩ := ac.fin
        obtain ⟨dl, w1, w2⟩ := ((nAcc.rf ac.1).tick L ⟨by omega, by omega⟩ (by decide) tg).fin
        have eA : ξ 267 22 = nI (M0 + mv) := by rw [v1, m0, nI_add]
        have eB : ξ1 267 22 = nI (M0 + mv + dl) := by rw [w1, eA, nI_add]
        have tA : (nI (M0 + mv)).toInt = ((M0 + mv : Nat) : Int) := nI_toInt (by omega)
        have tB : (nI (M0 + mv + dl)).toInt = ((M0 + mv + dl : Nat) : Int) := nI_toInt (by omega)
        have ref : ∀ m2, fX12_settles_l32 (m2 + 1) (nI a) (nI b) ξ = if ξ1 267 22 ≤ ξ 267 22 then fX12_settles_n62 (fX12_settles_l32 m2) (nI a) (nI (b + 1)) ξ1 else fX12_settles_n62 (fX12_settles_l32 m2) (nI (b + 1)) (nI (b + 1)) ξ1 := fun m2 => by
          rw [fX12_settles_l32, s100, if_neg (fun w => far ((nIle (by omega) (by omega)).mp w)), zLt_eq, tg, zBd_some, zLt_eq, nI_1]
        have n62 : ∀ m2 k, k ≤ 500 → fX12_settles_n62 (fX12_settles_l32 m2) (nI k) (nI (b + 1)) ξ1 = fX12_settles_l32 m2 (nI k) (nI (b + 1)) ξ1 := fun m2 k hk => by
          unfold fX12_settles_n62
          rw [if_pos ((le500 (by omega)).mpr hk)]
        rw [cls]
        by_cases z : dl = 0
        · have same : ξ1 267 22 = ξ 267 22 := by rw [eB, eA, z, Nat.add_zero]
          rw [if_pos (by rw [st1, st, same])]
          obtain ⟨v, μ', ξ', x1, x2⟩ := ih (d - 1) (by omega) m (b + 1) a μ1 ξ1 (by omega) (by omega) ha (by omega) h1 ac1
          refine ⟨v, μ', ξ', x1, fun m2 h2 => ?_⟩
          obtain ⟨m2, rfl⟩ : ∃ m', m2 = m' + 1 := ⟨m2 - 1, by omega⟩
          rw [ref, if_pos (by rw [same]; exact Int32.le_refl _), n62 _ _ ha]
          exact x2 m2 (by omega)
        · have nle : ¬ ξ1 267 22 ≤ ξ 267 22 := fun w => by
            have := Int32.le_iff_toInt_le.mp w
            rw [eB, eA, tA, tB] at this
            omega
          rw [if_neg (fun w => by
            rw [st1, st] at w
            have := canc _ _ w
            exact nle (by rw [this]; exact Int32.le_refl _))]
          by_cases b5 : b + 1 ≤ 500
          · obtain ⟨v, μ', ξ', x1, x2⟩ := ih (d - 1) (by omega) m (b + 1) (b + 1) μ1 ξ1 (by omega) (by omega) b5 (Nat.le_refl _) h1 ac1
            refine ⟨v, μ', ξ', x1, fun m2 h2 => ?_⟩
            obtain ⟨m2, rfl⟩ : ∃ m', m2 = m' + 1 := ⟨m2 - 1, by omega⟩
            rw [ref, if_neg nle, n62 _ _ b5]
            exact x2 m2 (by omega)
          · obtain ⟨ξ3, p1, -⟩ := mFromP (v := (-1 : Int32)) (ξ := ξ1)
            refine ⟨-1, μ1, ξ3, bad m (b + 1) (b + 1) μ1 (by omega) (by omega) (by omega) (by omega), fun m2 h2 => ?_⟩
            obtain ⟨m2, rfl⟩ : ∃ m', m2 = m' + 1 := ⟨m2 - 1, by omega⟩
            rw [ref, if_neg nle]
            unfold fX12_settles_n62
            rw [if_neg (fun w => b5 ((le500 (by omega)).mp w)), p1, zBp_some]
      · -- quiet ticks
        have qs : ∀ i, i ≤ q → ∃ ξi, mTk i ξ = some ξi ∧ ξi 267 22 = ξ 267 22 := fun i hi => by
          obtain ⟨μi, ξi, a1, a2, a3⟩ := al i hi
          have si : μi 263 4 = ξi 267 22 + c := (a2.1.1.2.2.2.2.2 trivial).2.2.2
          have : μi 263 4 = μ 263 4 := by rw [a3.1 263 (by decide) (by decide) (by decide) (by decide)]
          exact ⟨ξi, a1, canc _ _ (by rw [← si, this, st])⟩
        obtain ⟨ξ1', z1, z2⟩ := qs q (Nat.le_refl _)
        rw [e2] at z1
        obtain rfl := Option.some.inj z1
        rw [cls, if_pos (by rw [st1, st, z2])]
        by_cases far2 : a + 100 ≤ b + q
        · obtain ⟨ξj, y1, -⟩ := mSetQ (b := b) (M := 0) (q := a + 100 - b) ha (by omega) (by omega) (fun i hi => qs i (by omega)) (a + 100 - b) (Nat.le_refl _)
          obtain ⟨ξ3, p1, -⟩ := mFromP (v := nI a) (ξ := ξj)
          refine ⟨nI a, μ1, ξ3, ?_, fun m2 h2 => ?_⟩
          · obtain ⟨m, rfl⟩ : ∃ m', m = m' + 1 := ⟨m - 1, by omega⟩
            rw [fX3_calmFrom_l8]
            by_cases w : (600 : Int32) ≤ nI (b + q)
            · rw [if_pos w]; exact n77 μ1
            · rw [if_neg w, if_neg (show ¬ (500 : Int32) < nI a from fun w => by have := (gt500 (by omega)).mp w; omega), pk_sub (by omega), if_pos ((ge100 (by omega)).mpr (by omega))]
              exact n77 μ1
          · obtain ⟨ξj', y1', y2'⟩ := mSetQ (b := b) (M := m2 - (a + 100 - b)) (q := a + 100 - b) ha (by omega) (by omega) (fun i hi => qs i (by omega)) (a + 100 - b) (Nat.le_refl _)
            rw [y1] at y1'
            obtain rfl := Option.some.inj y1'
            rw [show m2 = m2 - (a + 100 - b) + (a + 100 - b) by omega, y2']
            obtain ⟨m3, e3⟩ : ∃ m', m2 - (a + 100 - b) = m' + 1 := ⟨m2 - (a + 100 - b) - 1, by omega⟩
            rw [e3, fX12_settles_l32, s100, if_pos ((nIle (by omega) (by omega)).mpr (by omega)), p1, zBp_some]
        · obtain ⟨v, μ', ξ', x1, x2⟩ := ih (d - q) (by omega) m (b + q) a μ1 ξ1 (by omega) (by omega) ha (by omega) h1 ac1
          refine ⟨v, μ', ξ', x1, fun m2 h2 => ?_⟩
          obtain ⟨ξj, y1, y2⟩ := mSetQ (b := b) (M := m2 - q) (q := q) ha (by omega) (by omega) qs q (Nat.le_refl _)
          rw [e2] at y1
          obtain rfl := Option.some.inj y1
          rw [show m2 = m2 - q + q by omega, y2]
          exact x2 (m2 - q) (by omega)
theorem pSettlesV (L : lq_all) {c M0 : Nat} {μ ξ : gM} (h : LIVE μ ξ) (t1 : μ 4 0 = 1) (t2 : ξ 267 15 = 1) (h4 : ξ 272 4 = nI c) (c9 : c ≤ 99) (m0 : ξ 267 22 = nI M0) (hM : M0 ≤ 2147400000) : ∃ v μ' ξ', fX11_settles μ = some (v, μ') ∧ fX12_settles ξ = some (v, ξ') := by
  have l0 := h.u0
  unfold fX11_settles fX12_settles
  rw [zLt_eq]
  have y15 : gUp ξ 267 0 0 267 15 = 1 := by rw [zUp_slot _ (by decide)]; exact t2
  have y4 : gUp ξ 267 0 0 272 4 = nI c := by rw [zUp_ne _ (by decide)]; exact h4
  have y22 : gUp ξ 267 0 0 267 22 = nI M0 := by rw [zUp_slot _ (by decide)]; exact m0
  generalize gUp ξ 267 0 0 = ζ at l0 y15 y4 y22 ⊢
  obtain ⟨cn, cl, cg, ct, nc⟩ := l0.nc
  have tb := l0.gd.tb
  have g6 : fX12_canGo 600 ζ = some (if tkI ζ + 600 ≤ 9999 then 1 else 0) := goG (N := 600) tb (by decide)
  rw [t1, y15, if_neg one_n0, if_neg one_n0, withG l0.tick, g6, zBd_some, zBd_some]
  by_cases d : tkI ζ + 600 ≤ 9999
  · obtain ⟨ζ1, p1, p2, p3⟩ := mToP (ξ := ζ)
    obtain ⟨n, cc, μ1, o1, rs, o2⟩ := pOpenAll (l0.gd.to (fun _ _ => rfl) (p2 269 (by decide)) (fun i _ => by rw [p2 272 (by decide)])) (nc.fr rfl rfl (p2 269 (by decide)))
    have et : tkI ζ1 = tkI ζ := by unfold tkI; rw [p2 272 (by decide)]
    -- a ghost for the moves
    obtain ⟨c0, n0, cn0, cl0, cg0, ct0, r0⟩ := l0.rs
    obtain ⟨rfl, rfl, rfl, rfl, rfl⟩ : n0 = n ∧ cn0 = cn ∧ cl0 = cl ∧ cg0 = cg ∧ ct0 = ct := by
      have a := r0.2.1
      have b := nc
      have q1 := r0.2.2.1
      have q2 := rs.2.2.1
      refine ⟨nI_inj (by have := q1.1; omega) (by have := q2.1; omega) (q1.2.2.1.symm.trans ?_), nI_inj (by have := a.1; omega) (by have := b.1; omega) (a.2.2.1.symm.trans b.2.2.1), nI_inj (by have := a.1; omega) (by have := b.1; omega) (a.2.2.2.1.symm.trans b.2.2.2.1), nI_inj (by have := a.1; omega) (by have := b.1; omega) (a.2.2.2.2.1.symm.trans b.2.2.2.2.1), nI_inj (by have := a.1; omega) (by have := b.1; omega) (a.2.2.2.2.2.symm.trans b.2.2.2.2.2)⟩
      rw [← q2.2.2.1, p2 272 (by decide)]
    have lr : nLR n0 cn0 cl0 cg0 ct0 c ζ1 := ⟨⟨μ, r0.lr (p2 269 (by decide)) (fun i _ => by rw [p2 272 (by decide)])⟩, by rw [p2 272 (by decide)]; exact y4, c9⟩
    obtain ⟨v, μ', ξ', x1, x2⟩ := pSettles_l L (ξ0 := ζ1) (by omega) (by omega) (by rw [p2 267 (by decide)]; exact y22) hM 600 100000 0 0 μ1 ζ1 (by omega) (by omega) (by omega) (by omega) rs (nAcc.rf lr)
    have x1' : fX3_calmFrom μ = some (v, μ') := by
      unfold fX3_calmFrom
      rw [o1, zBd_some]
      exact x1
    have x2' := x2 100000 (by omega)
    rw [if_pos d, if_neg one_n0, if_neg one_n0, x1', zBp_some, p1, zBd_some]
    exact ⟨v, μ', ξ', rfl, x2'⟩
  · rw [if_neg d, if_pos rfl, if_pos rfl]
    exact ⟨_, _, _, rfl, rfl⟩
