/-! returns, fails, worst -/
theorem cUpB {s k : Nat} {μ : gM} (hk : k < 32) : fX9_isUp s (nI k) μ = some (if bt (μ s 1) k = true then 1 else 0) := by
  unfold fX9_isUp
  by_cases c : bt (μ s 1) k = true
  · rw [if_pos ((bit1_iff hk).mpr c), if_pos c]
  · rw [if_neg (fun w => c ((bit1_iff hk).mp w)), if_neg c]
theorem cMost {μ ξ : gM} (tk : μ 34 0 = ξ 272 0) (tb : 0 ≤ tkI ξ ∧ tkI ξ ≤ 9999) : ∃ M : Nat, fX3_mostTicks μ = some (nI M) ∧ (M : Int) = min 500 (9999 - tkI ξ) := by
  unfold fX3_mostTicks
  rw [tk]
  have e : ((9999 : Int32) - ξ 272 0).toInt = 9999 - tkI ξ := iS (show (9999 : Int32).toInt = 9999 from rfl) rfl (by omega) (by omega)
  have e2 := iMn (500 : Int32) ((9999 : Int32) - ξ 272 0)
  rw [e, show (500 : Int32).toInt = 500 from rfl] at e2
  exact ⟨(min 500 (9999 - tkI ξ)).toNat, congrArg some (nI_of' (by omega)), by omega⟩
theorem go1 {ξ : gM} (h : 0 ≤ tkI ξ ∧ tkI ξ ≤ 9999) : fX12_canGo 1 ξ = some (if tkI ξ + 1 ≤ 9999 then 1 else 0) := goG (N := 1) h (by decide)
/-- the reference waits as long as nobody regains -/
theorem mRet {g k n cn cl cg ct q y : Nat} {H : Int32} {ξ : gM} (hg : g < 5) (hk : k < 6) (hy : y + q ≤ 500) (t0 : 0 ≤ tkI ξ) (tb : tkI ξ + (q : Int) ≤ 9999) (hH : bt H k = false) (al : ∀ i, i ≤ q → ∃ μi ξi, mTk i ξ = some ξi ∧ PGD 249 g n cn cl cg ct μi ξi ∧ tkI ξi = tkI ξ + (i : Int) ∧ (i < q → μi (249 + 5) g = H)) : ∀ (j M : Nat), j ≤ q → ∃ ξj, mTk j ξ = some ξj ∧ fX12_returns_l35 (M + j) (nI g) (nI k) (nI y) ξ = fX12_returns_l35 M (nI g) (nI k) (nI (y + j)) ξj := by
  intro j
  induction j with
  | zero => intro M _; exact ⟨ξ, rfl, rfl⟩
  | succ j ih =>
    intro M hj
    obtain ⟨ξj, e1, e2⟩ := ih (M + 1) (by omega)
    obtain ⟨μi, ξi, a1, a2, a3, a4⟩ := al j (by omega)
    obtain ⟨μk, ξk, b1, b2, b3, -⟩ := al (j + 1) hj
    rw [e1] at a1
    obtain rfl := Option.some.inj a1
    obtain ⟨cc, x, u⟩ := a2.cg
    refine ⟨ξk, b1, ?_⟩
    rw [show M + (j + 1) = M + 1 + j by omega, e2, fX12_returns_l35, mDoesH u hg hk, zBd_some, a4 (by omega), if_neg (show ¬ bt H k = true by rw [hH]; decide), if_pos rfl, if_neg (show ¬ (500 : Int32) ≤ nI (y + j) from fun w => by have := (nIle (a := 500) (by omega) (by omega)).mp w; omega), go1 (by omega), zBd_some, if_pos (show tkI ξj + 1 ≤ 9999 by omega), if_neg one_n0, mTk_s e1 b1, zBd_some, zLt_eq, show nI (y + j) + (1 : Int32) = nI (y + j + 1) from nI_1 _]
    rfl
theorem pRegain_l {g k n cn cl cg ct M : Nat} {T : Int} (hg : g < 5) (hk : k < 6) (hT : 0 ≤ T ∧ T ≤ 9999) (hM : (M : Int) = min 500 (9999 - T)) : ∀ (d m y : Nat) (μ ξ : gM), y + d = M → d < m → PGD 249 g n cn cl cg ct μ ξ → tkI ξ = T + (y : Int) → ∃ v μ' ξ', fX3_regainedBehind_l23 m (nI g) (nI k) (nI M) (nI y) μ = some (v, μ') ∧ ∀ m2, d < m2 → fX12_returns_l35 m2 (nI g) (nI k) (nI y) ξ = some (v, ξ') := by
  intro d
  induction d using Nat.strongRecOn with
  | _ d ih =>
    intro m y μ ξ hy hm h tk
    obtain ⟨m, rfl⟩ : ∃ m', m = m' + 1 := ⟨m - 1, by omega⟩
    obtain ⟨cc, x, u⟩ := h.cg
    have dh := mDoesH (ξ := ξ) u hg hk
    have ch : fX9_isHeld 249 (nI g) (nI k) μ = some (if bt (μ (249 + 5) g) k = true then 1 else 0) := cHeldB hg (by omega)
    rw [fX3_regainedBehind_l23]
    by_cases b : bt (μ (249 + 5) g) k = true
    · rw [if_pos b] at dh ch
      obtain ⟨ξ3, q1, -⟩ := mFromP (v := nI y) (ξ := ξ)
      have n64 : fX3_regainedBehind_n64 (nI g) (nI k) (nI y) μ = some (nI y, μ) := by
        unfold fX3_regainedBehind_n64
        rw [ch, zBd_some, if_neg one_n0]
      have lhs : (if nI M ≤ nI y then fX3_regainedBehind_n64 (nI g) (nI k) (nI y) μ else zBd (fX9_isHeld 249 (nI g) (nI k) μ) (fun x6 => (if x6 = 0 then zBp (fX10_step 249 (nI M - nI y) μ) (fun x7 μ8 => zLt (nI y + (zMx x7 (1 : Int32))) (fun x9 => (fX3_regainedBehind_l23 m (nI g) (nI k) (nI M) x9 μ8))) else (fX3_regainedBehind_n64 (nI g) (nI k) (nI y) μ)))) = some (nI y, μ) := by
        rw [n64, ch, zBd_some, if_neg one_n0]
        split <;> rfl
      refine ⟨_, _, ξ3, lhs, fun m2 h2 => ?_⟩
      obtain ⟨m2, rfl⟩ : ∃ m', m2 = m' + 1 := ⟨m2 - 1, by omega⟩
      rw [fX12_returns_l35, dh, zBd_some, if_neg one_n0]
      unfold fX12_returns_n69 fX12_returns_n84
      rw [dh, zBd_some, if_neg one_n0, q1, zBp_some]
    · rw [if_neg b] at dh ch
      by_cases d0 : d = 0
      · subst d0
        obtain ⟨ξ3, q1, -⟩ := mFromP (v := (-1 : Int32)) (ξ := ξ)
        rw [if_pos ((nIle (by omega) (by omega)).mpr (by omega))]
        unfold fX3_regainedBehind_n64
        rw [ch, zBd_some, if_pos rfl]
        refine ⟨_, _, ξ3, rfl, fun m2 h2 => ?_⟩
        obtain ⟨m2, rfl⟩ : ∃ m', m2 = m' + 1 := ⟨m2 - 1, by omega⟩
        have n69 : fX12_returns_n69 (nI g) (nI k) (nI y) ξ = some (-1, ξ3) := by
          unfold fX12_returns_n69 fX12_returns_n84
          rw [dh, zBd_some, if_pos rfl, q1, zBp_some]
        rw [fX12_returns_l35, dh, zBd_some, if_pos rfl, n69]
        by_cases c5 : (500 : Int32) ≤ nI y
        · rw [if_pos c5]
        · have : ¬ 500 ≤ y := fun w => c5 ((nIle (a := 500) (by omega) (by omega)).mpr w)
          rw [if_neg c5, go1 (by omega), zBd_some, if_neg (show ¬ tkI ξ + 1 ≤ 9999 by omega), if_pos rfl]
      · have es : nI M - nI y = nI d := by rw [pk_sub (by omega), show M - y = d by omega]
        obtain ⟨q, μ1, ξ1, q1, q2, e1, e2, h1, t1, k1, al⟩ := h.step2 (by decide) (d := d) (by omega) (by omega) (by omega) (by omega)
        rw [if_neg (fun w => by have := (nIle (by omega) (by omega)).mp w; omega), ch, zBd_some, if_pos rfl, es, e1, zBp_some, zLt_eq, zMx_n q1 (by omega), nI_add]
        obtain ⟨v, μ', ξ', x1, x2⟩ := ih (d - q) (by omega) m (y + q) μ1 ξ1 (by omega) (by omega) h1 (by omega)
        refine ⟨v, μ', ξ', x1, fun m2 h2 => ?_⟩
        obtain ⟨ξj, y1, y2⟩ := mRet (ξ := ξ) (H := μ (249 + 5) g) (y := y) (q := q) hg hk (by omega) (by omega) (by omega) (Bool.eq_false_iff.mpr b) (fun i hi => by
          obtain ⟨μi, ξi, a1, a2, a3, a4, -⟩ := al i hi
          exact ⟨μi, ξi, a1, a2, a3, fun w => by rw [(a4 w).1 _ (by omega) (by omega) (by omega) (by omega)]⟩) q (m2 - q) (Nat.le_refl _)
        rw [e2] at y1
        obtain rfl := Option.some.inj y1
        rw [show m2 = m2 - q + q by omega, y2]
        exact x2 (m2 - q) (by omega)
theorem pReturnsV {a1 a2 : Int32} {μ ξ : gM} (h : LIVE μ ξ) : ∃ v μ' ξ', fX11_returns a1 a2 μ = some (v, μ') ∧ fX12_returns a1 a2 ξ = some (v, ξ') := by
  have l0 := h.u0
  unfold fX11_returns fX12_returns
  rw [zLt_eq]
  generalize gUp ξ 267 0 0 = ζ at l0 ⊢
  obtain ⟨cn, cl, cg, ct, nc⟩ := l0.nc
  have tb := l0.gd.tb
  obtain ⟨c0, x0, -⟩ := l0.gd.ctx
  rcases memG (a1 := a1) (a2 := a2) x0.1 nc with ⟨g, k, m, rfl, rfl, g1, g2⟩ | ⟨g1, g2⟩
  · obtain ⟨hk, hg⟩ := x0.1.mlt nc m
    have u1 : μ 34 1 = ζ 272 1 := x0.2.1.2.1
    rw [g1, g2, zBd_some, zBd_some, if_neg one_n0, if_neg one_n0, cUpB (by have := m.2.1; omega), zBd_some, mUp m.2.1, zBd_some, u1]
    by_cases b : bt (ζ 272 1) k = true
    · rw [if_pos b, if_neg one_n0, if_neg one_n0]
      exact ⟨_, _, _, rfl, rfl⟩
    · rw [if_neg b, if_pos rfl, if_pos rfl]
      obtain ⟨ζ1, p1, on, p2⟩ := mToP' (ζ := ζ)
      have gd1 := l0.gd.to (μ' := μ) (ξ' := ζ1) (fun _ _ => rfl) (p2 269 (by decide)) (fun i _ => by rw [p2 272 (by decide)])
      obtain ⟨n, μ1, e1, pg, f⟩ := pOpen gd1 (nc.fr rfl rfl (p2 269 (by decide))) hg
      obtain ⟨μ2, ζ2, e2, e3, pg2, t2, x2⟩ := pg.rise (by decide) hk (by rw [p2 272 (by decide)]; exact Bool.eq_false_iff.mpr b)
      have f2 : ∀ a, a < 249 → μ2 a = μ a := fun a ha => (t2.lt a ha).trans (f a ha)
      have tz : tkI ζ2 = tkI ζ := by unfold tkI; rw [x2, p2 272 (by decide)]
      have tk2 : μ2 34 0 = ζ2 272 0 := by rw [f2 34 (by decide), x2, p2 272 (by decide)]; exact l0.tick
      obtain ⟨M, e4, hM⟩ := cMost tk2 (by rw [tz]; exact tb)
      rw [tz] at hM
      obtain ⟨v, μ', ξ', y1, y2⟩ := pRegain_l (M := M) m.1 m.2.1 tb hM M 100000 0 μ2 ζ2 (by omega) (by omega) pg2 (by omega)
      have y1' : fX3_regainedBehind_l23 100000 (nI g) (nI k) (nI M) (0 : Int32) μ2 = some (v, μ') := y1
      have y2' : fX12_returns_l35 100000 (nI g) (nI k) (0 : Int32) ζ2 = some (v, ξ') := y2 100000 (by omega)
      unfold fX3_regainedBehind
      rw [e1, zBd_some, e2, zBd_some, e4, zBd_some, y1', zBp_some, p1, zBd_some, e3, zBd_some, y2']
      exact ⟨_, _, _, rfl, rfl⟩
  · rw [g1, g2, zBd_some, zBd_some, if_pos rfl, if_pos rfl]
    exact ⟨_, _, _, rfl, rfl⟩
/-- what the reference keeps beside its row is nothing to the page -/
theorem RS.x7 {s n cn cl cg ct : Nat} {c : Int32} {μ ξ ξ' : gM} (h : RS s n False c cn cl cg ct μ ξ) (e : ∀ a, a ≠ 267 → ξ' a = ξ a) : RS s n False c cn cl cg ct μ ξ' := by
  obtain ⟨sr, nc, pn, rg, nx, px⟩ := h
  have x2 : ∀ i, i < 490 → ξ' 272 i = ξ 272 i := fun i _ => by rw [e 272 (by decide)]
  have et : tkI ξ' = tkI ξ := by unfold tkI; rw [e 272 (by decide)]
  refine ⟨sr.cp id (fun _ _ _ => rfl) (e 269 (by decide)) (fun _ _ _ => rfl) x2 (fun f => absurd f id), nc.fr rfl rfl (e 269 (by decide)), pn.cp (e 269 (by decide)) (fun _ _ _ => rfl) x2, rg, nx, ?_⟩
  rw [et]
  exact px.cp pn.1 (fun _ _ _ => rfl) x2
theorem PGD.x7 {s g n cn cl cg ct : Nat} {μ ξ ξ' : gM} (h : PGD s g n cn cl cg ct μ ξ) (e : ∀ a, a ≠ 267 → ξ' a = ξ a) : PGD s g n cn cl cg ct μ ξ' := by
  rcases h with ⟨c, h, hg⟩ | ⟨c, ν, rs, p, w, ch, hg⟩
  · exact Or.inl ⟨c, h.x7 e, hg⟩
  · exact Or.inr ⟨c, ν, rs.x7 e, p, w, by rw [e 272 (by decide)]; exact ch, hg⟩
theorem strE {s : Nat} {μ κ : gM} (e : κ (s + 10) = μ (s + 10)) : ∀ (m : Nat) (y1 y2 y3 y4 : Int32), fX9_strongest_l5 s m y1 y2 y3 y4 κ = fX9_strongest_l5 s m y1 y2 y3 y4 μ := by
  intro m
  induction m with
  | zero => intro y1 y2 y3 y4; rfl
  | succ m ih =>
    intro y1 y2 y3 y4
    rw [fX9_strongest_l5, fX9_strongest_l5]
    unfold fX9_strongest_n27
    simp only [e, ih]
theorem othE {g k : Int32} {μ κ : gM} (q : QUI 249 μ κ) : fX3_otherHolder g k κ = fX3_otherHolder g k μ := by
  have h3 : κ 249 3 = μ 249 3 := q.2 3 (by decide)
  have h5 : κ 254 = μ 254 := q.1 254 (by decide) (by decide) (by decide) (by decide)
  have h10 : κ (249 + 10) = μ (249 + 10) := q.1 _ (by decide) (by decide) (by decide) (by decide)
  unfold fX3_otherHolder fX9_beside fX9_strongest
  rw [h3, h5]
  simp only [strE h10]
theorem pOther {g k n cn cl cg ct : Nat} {μ ξ : gM} (h : PGD 249 g n cn cl cg ct μ ξ) (hk : k < cn) : ∃ v y, fX3_otherHolder (nI g) (nI k) μ = some v ∧ fX12_bitsOf (nI g) 2 ξ = some (μ (249 + 5) g) ∧ fX12_partOf (nI k) ξ = some y ∧ fX12_strongestOf (nI g) ((μ (249 + 5) g &&& y) &&& (((1 : Int32) <<< (nI k &&& 31)) ^^^ (-1 : Int32))) ξ = some v ∧ (bt (μ (249 + 5) g) k = false → fX12_holderOf (nI g) (nI k) ξ = some v) := by
  obtain ⟨nc, hg⟩ := h.nc
  have b5 := nc.1.2.2.1
  have b6 := nc.1.1
  obtain ⟨cc, ctx, u⟩ := h.cg
  obtain ⟨x, y, e1, e2, e3⟩ := pPart (s := 249) (g := g) (H := μ (249 + 5) g) ctx.1 nc ctx.2.1.2.2.2.1 hk (fun j hj w => u.hm (by omega) hj w)
  have hB : ∀ j, j < 6 → bt ((μ (249 + 5) g &&& y) &&& (((1 : Int32) <<< (nI k &&& 31)) ^^^ (-1 : Int32))) j = true → mem (ξ 269) g j := fun j hj w => by
    rw [bt_and, bt_and, Bool.and_eq_true, Bool.and_eq_true] at w
    exact u.hm (by omega) (by omega) w.1.1
  obtain ⟨v, f1, f2, -⟩ := pStrong (s := 249) ctx.1 nc ctx.2.2.1 (by omega) hB
  have mh := mHeld ctx.1 u (by omega)
  refine ⟨v, y, ?_, mh, e2, f2, fun b => ?_⟩
  · unfold fX3_otherHolder
    rw [ckT (gI (by omega) (by decide)), e1, zBd_some, nI_clamp (by omega), show (254 : Nat) = 249 + 5 from rfl, e3, f1, zBd_some]
  · unfold fX12_holderOf
    have z : (μ (249 + 5) g &&& y) &&& (((1 : Int32) <<< (nI k &&& 31)) ^^^ (-1 : Int32)) = μ (249 + 5) g &&& y := and_not_id (by omega) (by rw [bt_and, b, Bool.false_and])
    rw [z] at f2
    rw [mh, zBd_some, e2, zBd_some, f2, zBd_some]
/-- a step of the class, its ticks -/
theorem PGD.step3 {s g n cn cl cg ct d : Nat} {μ ξ : gM} (hs : 34 ≤ s) (h : PGD s g n cn cl cg ct μ ξ) (d1 : 1 ≤ d) (d2 : d ≤ 900) (t0 : 0 ≤ tkI ξ) (tb : tkI ξ + (d : Int) ≤ 100000) : ∃ q μ', 1 ≤ q ∧ q ≤ d ∧ fX10_step s (nI d) μ = some (nI q, μ') ∧ cTk s q μ = some μ' ∧ ∀ i, i < q → ∃ μi, cTk s i μ = some μi ∧ QUI s μ μi := by
  obtain ⟨nx, lo, hi, w⟩ := h.ws ⟨t0, by omega⟩
  have td : (nI d).toInt = d := tN (by omega)
  have n0 : μ s 0 = ξ 272 0 := by
    obtain ⟨c, x, -⟩ := h.cg
    exact x.2.1.1
  rcases cStep2 (most := nI d) hs w (by rw [n0, td]; exact tb) with e | ⟨q, μ1, q1, q2, e1, e2, e3⟩
  · obtain ⟨μ1, ξ1, a1, -⟩ := h.tick hs ⟨t0, by omega⟩
    refine ⟨1, μ1, by omega, by omega, by rw [e, a1]; rfl, by rw [cTk, a1, zBp_some, cTk], fun i hi => ?_⟩
    have : i = 0 := by omega
    subst this
    exact ⟨μ, rfl, QUI.rf _ _⟩
  · exact ⟨q, μ1, q1, by omega, e1, e2, fun i hi => e3 i (by omega)⟩
/-- the reference ticks on while there is no heir -/
theorem mFailT {g k n cn cl cg ct q y : Nat} {μ ξ : gM} (hk : k < cn) (hy : y + q ≤ 500) (t0 : 0 ≤ tkI ξ) (tb : tkI ξ + (q : Int) ≤ 9999) (h : PGD 249 g n cn cl cg ct μ ξ) (ho : fX3_otherHolder (nI g) (nI k) μ = some (-1)) (h26 : ξ 267 26 = -1) (al : ∀ i, i < q → ∃ μi, cTk 249 i μ = some μi ∧ QUI 249 μ μi) : ∀ j, j ≤ q → ∃ μj χ v, cTk 249 j μ = some μj ∧ PGD 249 g n cn cl cg ct μj χ ∧ tkI χ = tkI ξ + (j : Int) ∧ fX3_otherHolder (nI g) (nI k) μj = some v ∧ χ 267 26 = v ∧ χ 269 = ξ 269 ∧ χ 273 = ξ 273 ∧ TF 249 μ μj ∧ ∀ M, fX12_failsIn_l23 (M + j) (nI g) (nI k) (nI y) ξ = fX12_failsIn_l23 M (nI g) (nI k) (nI (y + j)) χ := by
  intro j
  induction j with
  | zero => intro _; exact ⟨μ, ξ, -1, rfl, h, by omega, ho, h26, rfl, rfl, TF.rf _ _, fun M => rfl⟩
  | succ j ih =>
    intro hj
    obtain ⟨μj, χ, v, a1, a2, a3, a4, a5, a6, a7, a8, a9⟩ := ih (by omega)
    obtain ⟨μi, b1, b2⟩ := al j (by omega)
    rw [a1] at b1
    obtain rfl := Option.some.inj b1
    rw [othE b2, ho] at a4
    obtain rfl := Option.some.inj a4
    obtain ⟨μ1, χ1, c1, c2, c3, c4, c5, c6⟩ := a2.tick (by decide) (by omega)
    obtain ⟨v, yy, d1, d2, d3, d4, -⟩ := pOther (k := k) c3 hk
    refine ⟨μ1, gUp χ1 267 26 v, v, ?_, c3.x7 (fun a ha => zUp_ne _ ha), ?_, d1, zUp_same _ _ _ _, ?_, ?_, a8.tr c4, fun M => ?_⟩
    · rw [cTk_add j 1 μ μj a1, cTk, c1, zBp_some, cTk]
    · have : tkI (gUp χ1 267 26 v) = tkI χ1 := by unfold tkI; rw [zUp_ne _ (by decide)]
      omega
    · rw [zUp_ne _ (by decide), c5.1 269 (by decide) (by decide) (by decide)]; exact a6
    · rw [zUp_ne _ (by decide), c5.1 273 (by decide) (by decide) (by decide)]; exact a7
    · rw [show M + (j + 1) = M + 1 + j by omega, a9 (M + 1), fX12_failsIn_l23, if_pos a5, if_neg (show ¬ (500 : Int32) ≤ nI (y + j) from fun w => by have := (nIle (a := 500) (by omega) (by omega)).mp w; omega), go1 (by omega), zBd_some, if_pos (show tkI χ + 1 ≤ 9999 by omega), if_neg one_n0, c2, zBd_some, zLt_eq, d2, zBd_some, d3, zBd_some, d4, zBd_some, zLt_eq, show nI (y + j) + (1 : Int32) = nI (y + j + 1) from nI_1 _]
      rfl
theorem pFail_l {g k n cn cl cg ct M : Nat} {T : Int} (hk : k < cn) (hT : 0 ≤ T ∧ T ≤ 9999) (hM : (M : Int) = min 500 (9999 - T)) : ∀ (d m y : Nat) (v0 : Int32) (μ ξ : gM), y + d = M → d < m → PGD 249 g n cn cl cg ct μ ξ → tkI ξ = T + (y : Int) → fX3_otherHolder (nI g) (nI k) μ = some v0 → ξ 267 26 = v0 → ∃ v v1 μ' ξ', fX3_takenBehind_l23 m (nI g) (nI k) (nI M) (nI y) μ = some (v, μ') ∧ (∀ m2, d < m2 → fX12_failsIn_l23 m2 (nI g) (nI k) (nI y) ξ = some (v, ξ')) ∧ fX3_otherHolder (nI g) (nI k) μ' = some v1 ∧ ξ' 267 26 = v1 ∧ (∀ a, a < 249 → μ' a = μ a) ∧ ξ' 269 = ξ 269 ∧ ∀ i, i < 490 → ξ' 272 i = ξ 273 (6860 + i) := by
  intro d
  induction d using Nat.strongRecOn with
  | _ d ih =>
    intro m y v0 μ ξ hy hm h tk ho h26
    obtain ⟨m, rfl⟩ : ∃ m', m = m' + 1 := ⟨m - 1, by omega⟩
    rw [fX3_takenBehind_l23]
    have n62 : fX3_takenBehind_n62 (nI g) (nI k) (nI y) μ = some (if v0 = -1 then -1 else nI y, μ) := by
      unfold fX3_takenBehind_n62
      rw [ho, zBd_some]
      by_cases c : v0 = -1
      · rw [if_pos c, if_pos c]
      · rw [if_neg c, if_neg c]
    obtain ⟨ξ3, q1, q2, q3⟩ := mFromP (v := if v0 = -1 then -1 else nI y) (ξ := ξ)
    have n83 : fX12_failsIn_n83 (nI y) ξ = some (if v0 = -1 then -1 else nI y, ξ3) := by
      unfold fX12_failsIn_n83 fX12_failsIn_n97
      rw [h26]
      by_cases c : v0 = -1
      · rw [if_pos c] at q1
        rw [if_pos c, q1, zBp_some, if_pos c]
      · rw [if_neg c] at q1
        rw [if_neg c, q1, zBp_some, if_neg c]
    have fr : ξ3 267 26 = v0 ∧ ξ3 269 = ξ 269 := ⟨by rw [q2 267 (by decide)]; exact h26, q2 269 (by decide)⟩
    by_cases c : v0 = -1
    · by_cases d0 : d = 0
      · subst d0
        rw [if_pos ((nIle (by omega) (by omega)).mpr (by omega)), n62]
        refine ⟨_, v0, _, ξ3, rfl, fun m2 h2 => ?_, ho, fr.1, fun _ _ => rfl, fr.2, q3⟩
        obtain ⟨m2, rfl⟩ : ∃ m', m2 = m' + 1 := ⟨m2 - 1, by omega⟩
        rw [fX12_failsIn_l23, h26, if_pos c, n83]
        by_cases c5 : (500 : Int32) ≤ nI y
        · rw [if_pos c5]
        · have : ¬ 500 ≤ y := fun w => c5 ((nIle (a := 500) (by omega) (by omega)).mpr w)
          rw [if_neg c5, go1 (by omega), zBd_some, if_neg (show ¬ tkI ξ + 1 ≤ 9999 by omega), if_pos rfl]
      · have es : nI M - nI y = nI d := by rw [pk_sub (by omega), show M - y = d by omega]
        obtain ⟨q, μ1, q4, q5, e1, e2, al⟩ := h.step3 (by decide) (d := d) (by omega) (by omega) (by omega) (by omega)
        obtain ⟨μj, χ, v, a1, a2, a3, a4, a5, a6, a7, a8, a9⟩ := mFailT (q := q) (y := y) hk (by omega) (by omega) (by omega) h (by rw [ho, c]) (by rw [h26, c]) al q (Nat.le_refl _)
        rw [e2] at a1
        obtain rfl := Option.some.inj a1
        rw [if_neg (show ¬ nI M ≤ nI y from fun w => by have := (nIle (by omega) (by omega)).mp w; omega), ho, zBd_some, if_pos c, es, e1, zBp_some, zLt_eq, zMx_n q4 (by omega), nI_add]
        obtain ⟨w, w1, μ', ξ', x1, x2, x3, x4, x5, x6, x7⟩ := ih (d - q) (by omega) m (y + q) v μ1 χ (by omega) (by omega) a2 (by omega) a4 a5
        refine ⟨w, w1, μ', ξ', x1, fun m2 h2 => ?_, x3, x4, fun a ha => (x5 a ha).trans (a8.lt a ha), x6.trans a6, fun i hi => by rw [x7 i hi, a7]⟩
        rw [show m2 = m2 - q + q by omega, a9]
        exact x2 (m2 - q) (by omega)
    · have lhs : (if nI M ≤ nI y then (fX3_takenBehind_n62 (nI g) (nI k) (nI y) μ) else zBd (fX3_otherHolder (nI g) (nI k) μ) (fun x7 => (if x7 = (-1 : Int32) then zBp (fX10_step 249 (nI M - nI y) μ) (fun x8 μ9 => zLt (nI y + (zMx x8 (1 : Int32))) (fun x10 => (fX3_takenBehind_l23 m (nI g) (nI k) (nI M) x10 μ9))) else (fX3_takenBehind_n62 (nI g) (nI k) (nI y) μ)))) = some (if v0 = -1 then -1 else nI y, μ) := by
        rw [ho, zBd_some, if_neg c, n62]
        split <;> rfl
      refine ⟨_, v0, _, ξ3, lhs, fun m2 h2 => ?_, ho, fr.1, fun _ _ => rfl, fr.2, q3⟩
      obtain ⟨m2, rfl⟩ : ∃ m', m2 = m' + 1 := ⟨m2 - 1, by omega⟩
      rw [fX12_failsIn_l23, h26, if_neg c, n83]
theorem pFailsIn {g k cn cl cg ct : Nat} {μ ξ : gM} (gd : GD 34 μ ξ) (nc : NC μ ξ cn cl cg ct) (hg : g < cg) (hk : k < cn) : ∃ v v1 μ' ξ', fX3_takenBehind (nI g) (nI k) μ = some (v, μ') ∧ fX12_failsIn (nI g) (nI k) ξ = some (v, ξ') ∧ fX3_otherHolder (nI g) (nI k) μ' = some v1 ∧ ξ' 267 26 = v1 ∧ (∀ a, a < 249 → μ' a = μ a) ∧ ξ' 269 = ξ 269 ∧ ∀ i, i < 490 → ξ' 272 i = ξ 272 i := by
  have tb := gd.tb
  have b5 := nc.1.2.2.1
  have b6 := nc.1.1
  obtain ⟨c0, x0, -⟩ := gd.ctx
  obtain ⟨ζ1, p1, on, p2⟩ := mToP' (ζ := ξ)
  have gd1 := gd.to (μ' := μ) (ξ' := ζ1) (fun _ _ => rfl) (p2 269 (by decide)) (fun i _ => by rw [p2 272 (by decide)])
  obtain ⟨n, μ1, e1, pg, f⟩ := pOpen gd1 (nc.fr rfl rfl (p2 269 (by decide))) hg
  obtain ⟨v, w, μ2, ζ2, e2, e3, pg2, t2, x2, xu⟩ := pg.low (by decide) hk
  have f2 : ∀ a, a < 249 → μ2 a = μ a := fun a ha => (t2.lt a ha).trans (f a ha)
  have tz : tkI ζ2 = tkI ξ := by unfold tkI; rw [x2, p2 272 (by decide)]
  have tk2 : μ2 34 0 = ζ2 272 0 := by rw [f2 34 (by decide), x2, p2 272 (by decide)]; exact x0.2.1.1
  obtain ⟨M, e4, hM⟩ := cMost tk2 (by rw [tz]; exact tb)
  rw [tz] at hM
  obtain ⟨cc, ctx, u⟩ := pg2.cg
  have dn : bt (ζ2 272 1) k = false := by rw [xu]; exact (btAnd (by omega)).1
  have hb0 : bt (μ2 (249 + 5) g) k = false := by
    rcases u.hb (by omega) (by omega : k < 6) with ⟨-, b, -⟩ | ⟨-, b, -⟩ | ⟨-, -, -, b⟩
    · exact b
    · exact b
    · rw [dn] at b; exact absurd b (by decide)
  obtain ⟨v0, yy, d1, -, -, -, d5⟩ := pOther (k := k) pg2 hk
  obtain ⟨y, y1, μ', ξ', s1, s2, s3, s4, s5, s6, s7⟩ := pFail_l (M := M) hk tb hM M 100000 0 v0 μ2 (gUp ζ2 267 26 v0) (by omega) (by omega) (pg2.x7 (fun a ha => zUp_ne _ ha)) (by unfold tkI at *; rw [zUp_ne _ (by decide)]; omega) d1 (zUp_same _ _ _ _)
  have s1' : fX3_takenBehind_l23 100000 (nI g) (nI k) (nI M) (0 : Int32) μ2 = some (y, μ') := s1
  have s2' : fX12_failsIn_l23 100000 (nI g) (nI k) (0 : Int32) (gUp ζ2 267 26 v0) = some (y, ξ') := s2 100000 (by omega)
  have z9 : ζ2 269 = ζ1 269 ∧ ζ2 273 = ζ1 273 := by
    rcases pg with ⟨c', rs, -⟩ | ⟨c', ν, rs, p, -, -, -⟩
    · obtain ⟨v', ν', ξx, y1, y2, -, -, r, -⟩ := pLower (y2 := 0) (by decide) rs.1 rs.2.1 hk (Or.inl rfl)
      rw [e3] at y2
      obtain ⟨-, rfl⟩ := Prod.mk.inj (Option.some.inj y2)
      exact ⟨r.1 269 (by decide) (by decide) (by decide), r.1 273 (by decide) (by decide) (by decide)⟩
    · obtain ⟨v', ν', ξx, y1, y2, -, -, r, -⟩ := pLower (y2 := 0) (by decide) rs.1 rs.2.1 hk (Or.inl rfl)
      rw [e3] at y2
      obtain ⟨-, rfl⟩ := Prod.mk.inj (Option.some.inj y2)
      exact ⟨r.1 269 (by decide) (by decide) (by decide), r.1 273 (by decide) (by decide) (by decide)⟩
  unfold fX3_takenBehind fX12_failsIn
  rw [e1, zBd_some, e2, zBp_some, e4, zBd_some, s1', p1, zBd_some, e3, zBp_some, d5 hb0, zBd_some, zLt_eq, s2']
  refine ⟨y, y1, μ', ξ', rfl, rfl, s3, s4, fun a ha => (s5 a ha).trans (f2 a ha), ?_, fun i hi => ?_⟩
  · rw [s6, zUp_ne _ (by decide), z9.1]; exact on.1
  · rw [s7 i hi, zUp_ne _ (by decide), z9.2]; exact on.2 i hi
theorem pFailsV {a1 a2 a3 : Int32} {μ ξ : gM} (h : LIVE μ ξ) : ∃ v μ' ξ', fX11_fails a1 a2 a3 μ = some (v, μ') ∧ fX12_fails a1 a2 a3 ξ = some (v, ξ') := by
  have l0 := h.u0
  unfold fX11_fails fX12_fails
  rw [zLt_eq]
  generalize gUp ξ 267 0 0 = ζ at l0 ⊢
  obtain ⟨cn, cl, cg, ct, nc⟩ := l0.nc
  have b6 := nc.1.1
  obtain ⟨c0, x0, -⟩ := l0.gd.ctx
  have z0 : (0 : Int32).toInt = 0 := rfl
  have z1 : (1 : Int32).toInt = 1 := rfl
  rcases pairG (a1 := a1) (a2 := a2) nc with ⟨g, k, hg, hk, rfl, rfl, g1, g2, g3⟩ | ⟨g1, g2 | ⟨g2, g3⟩⟩
  · have u1 : μ 34 1 = ζ 272 1 := x0.2.1.2.1
    rw [g1, g2, zBd_some, zBd_some, if_neg one_n0, if_neg one_n0, g3, zBd_some, if_neg one_n0, cUpB (by omega), zBd_some, mUp (by omega), zBd_some, u1]
    by_cases b : bt (ζ 272 1) k = true
    · rw [if_pos b, if_neg one_n0, if_neg one_n0, mIn32 _ (y := 0) (z := 1) rfl rfl, zBd_some]
      by_cases c : 0 ≤ a3.toInt ∧ a3.toInt ≤ 1
      · obtain ⟨v, v1, μ', ξ', e1, e2, e3, e4, -⟩ := pFailsIn (k := k) l0.gd nc hg hk
        rw [if_neg (show ¬ a3 < 0 from fun w => by have := Int32.lt_iff_toInt_lt.mp w; omega), if_pos (show a3 ≤ 1 from Int32.le_iff_toInt_le.mpr (by omega)), if_pos c, if_neg one_n0, e1, zBp_some, e2, zBp_some, e3, e4]
        by_cases d : a3 = 0
        · rw [if_pos d, if_pos d]
          exact ⟨_, _, _, rfl, rfl⟩
        · rw [if_neg d, if_neg d, zBd_some]
          exact ⟨_, _, _, rfl, rfl⟩
      · rw [if_neg c, if_pos rfl]
        by_cases d : a3 < 0
        · rw [if_pos d]
          exact ⟨_, _, _, rfl, rfl⟩
        · have d' : ¬ a3.toInt < (0 : Int32).toInt := fun w => d (Int32.lt_iff_toInt_lt.mpr w)
          rw [if_neg d, if_neg (show ¬ a3 ≤ 1 from fun w => by have := Int32.le_iff_toInt_le.mp w; omega)]
          exact ⟨_, _, _, rfl, rfl⟩
    · rw [if_neg b, if_pos rfl, if_pos rfl]
      exact ⟨_, _, _, rfl, rfl⟩
  · rw [g1, g2, zBd_some, zBd_some, if_pos rfl, if_pos rfl]
    exact ⟨_, _, _, rfl, rfl⟩
  · rw [g1, g2, zBd_some, zBd_some, if_pos rfl, if_neg one_n0, g3, zBd_some, if_pos rfl]
    exact ⟨_, _, _, rfl, rfl⟩
