/-! least, needs, stands -/
theorem zLtM {α : Type} {v : gM} {f : gM → Option α} : zLt v f = f v := zLt_eq
theorem cHeldB {s g k : Nat} {μ : gM} (hg : g < 5) (hk : k < 32) : fX9_isHeld s (nI g) (nI k) μ = some (if bt (μ (s + 5) g) k = true then 1 else 0) := by
  unfold fX9_isHeld
  rw [ckT (gI hg (by decide)), nI_clamp (by omega)]
  by_cases c : bt (μ (s + 5) g) k = true
  · rw [if_pos ((bit1_iff hk).mpr c), if_pos c]
  · rw [if_neg (fun w => c ((bit1_iff hk).mp w)), if_neg c]
theorem ONP.take {ζ ξ ξ1 : gM} (h : ONP ζ ξ) (f1 : ∀ a, a ≠ 272 → ξ1 a = ξ a) : ONP ζ ξ1 := ⟨(f1 269 (by decide)).trans h.1, fun i hi => by rw [f1 273 (by decide)]; exact h.2 i hi⟩
theorem pLeast_l {g k cn cl cg ct : Nat} {ζ : gM} (hg : g < cg) (m' : mem (ζ 269) g k) : ∀ (m v : Nat) (μ ξ : gM), GD 34 μ ζ → NC μ ζ cn cl cg ct → ONP ζ ξ → 1 ≤ v → v ≤ 255 → 255 < v + m → ∃ x μ' ξ', fX3_leastWord_l2 m (nI g) (nI k) (nI v) μ = some (x, μ') ∧ fX12_least_l32 m (nI g) (nI k) (nI v) ξ = some (x, ξ') := by
  have hg5 := m'.1
  have hk6 := m'.2.1
  intro m
  induction m with
  | zero => intro v μ ξ _ _ _ h1 h2 h3; omega
  | succ m ih =>
    intro v μ ξ gd nc on h1 h2 h3
    have l4 : (254 : Int32) < nI v ↔ 254 < v := by
      rw [Int32.lt_iff_toInt_lt, tN (by omega), show (254 : Int32).toInt = 254 from rfl]; omega
    have l5 : (255 : Int32) ≤ nI v ↔ 255 ≤ v := nIle (a := 255) (by omega) (by omega)
    rw [fX3_leastWord_l2, fX12_least_l32]
    by_cases c : 254 < v
    · obtain ⟨ξ3, q1, -⟩ := mFromP (v := (-1 : Int32)) (ξ := ξ)
      rw [if_pos (l4.mpr c), if_pos (l5.mpr (by omega)), q1, zBp_some]
      exact ⟨_, _, _, rfl, rfl⟩
    · obtain ⟨ξ1, t1, t2, t3⟩ := mTakeP (ξ := ξ)
      have on1 := on.take t2
      have x9 : ξ1 269 = ζ 269 := on1.1
      have gd1 : GD 34 μ ξ1 := gd.to (fun _ _ => rfl) x9 (fun i hi => by rw [t3 i hi]; exact on.2 i hi)
      have tb := gd1.tb
      obtain ⟨n, μ1, e1, p1, f1⟩ := pOpen gd1 (nc.fr rfl rfl x9) hg
      have tv : (nI v).toInt = v := tN (by omega)
      obtain ⟨μ2, e2, p2, f2⟩ := p1.tell (h := g) (k := k) (v := nI v) (by decide) (by rw [x9]; exact m') (by omega)
      have tk : tkI (gUp ξ1 272 (10 + (6 * g + k)) (nI v)) = tkI ξ1 := by unfold tkI; rw [zUp_slot _ (by omega)]
      obtain ⟨μ3, ξ3, e3, e4, p3, f3, r3⟩ := p2.run (N := 300) (by decide) (by omega) (by rw [tk]; exact tb.1) (by rw [tk]; omega)
      obtain ⟨cc, x, u⟩ := p3.cg
      have e3' : fX10_run 249 300 μ2 = some μ3 := e3
      have e4' : fX12_goes 300 (gUp ξ1 272 (10 + (6 * g + k)) (nI v)) = some ξ3 := e4
      rw [if_neg (fun w => c (l4.mp w)), if_neg (fun w => by have := l5.mp w; omega), e1, zBd_some, e2, zBd_some, e3', zBd_some, cHeldB hg5 (by omega), zBd_some, t1, zBd_some, mOf _ hg5 hk6, zBd_some, ckT (ig (x := 10) (b := 10) (N := 490) (by omega) (by decide) rfl), ix (x := 10) (b := 10) (by omega) rfl, zLtM, e4', zBd_some, mDoesH u hg5 hk6, zBd_some]
      by_cases d : bt (μ3 (249 + 5) g) k = true
      · obtain ⟨ξ4, q1, -⟩ := mFromP (v := nI v) (ξ := ξ3)
        rw [if_pos d, if_neg one_n0, if_neg one_n0, q1, zBp_some]
        exact ⟨_, _, _, rfl, rfl⟩
      · have fm : ∀ a, a < 249 → μ3 a = μ a := fun a ha => ((f3.lt a ha).trans (f2.lt a ha)).trans (f1 a ha)
        rw [if_neg d, if_pos rfl, if_pos rfl, zLt_eq, zLt_eq, show nI v + (1 : Int32) = nI (v + 1) from nI_1 v]
        exact ih (v + 1) μ3 ξ3 (gd.to fm rfl (fun _ _ => rfl)) (nc.fr (fm 4 (by decide)) (fm 5 (by decide)) rfl) ((on1.up (by decide) (by decide)).rf' r3) (by omega) (by omega) (by omega)
theorem mToP' {ζ : gM} : ∃ ζ1, fX12_toPaper ζ = some ζ1 ∧ ONP ζ ζ1 ∧ ∀ a, a ≠ 273 → ζ1 a = ζ a := by
  obtain ⟨ζ1, p1, p2, p3⟩ := mToP (ξ := ζ)
  exact ⟨ζ1, p1, ⟨p2 269 (by decide), p3⟩, p2⟩
theorem pLeastV {a1 a2 : Int32} {μ ξ : gM} (h : LIVE μ ξ) : ∃ v μ' ξ', fX11_least a1 a2 μ = some (v, μ') ∧ fX12_least a1 a2 ξ = some (v, ξ') := by
  have l0 := h.u0
  unfold fX11_least fX12_least
  rw [zLt_eq]
  generalize gUp ξ 267 0 0 = ζ at l0 ⊢
  obtain ⟨cn, cl, cg, ct, nc⟩ := l0.nc
  have tb := l0.gd.tb
  obtain ⟨c0, x0, -⟩ := l0.gd.ctx
  obtain ⟨w1, w2⟩ := wG3 l0.tick tb
  rcases memG (a1 := a1) (a2 := a2) x0.1 nc with ⟨g, k, m, rfl, rfl, g1, g2⟩ | ⟨g1, g2⟩
  · rw [g1, g2, zBd_some, zBd_some, if_neg one_n0, if_neg one_n0, w1, w2, zBd_some, zBd_some]
    by_cases d : tkI ζ + 300 ≤ 9999
    · obtain ⟨ζ1, p1, on, p2⟩ := mToP' (ζ := ζ)
      obtain ⟨x, μ', ξ', e1, e2⟩ := pLeast_l (x0.1.mlt nc m).2 m 100000 1 μ ζ1 l0.gd nc on (by omega) (by omega) (by omega)
      have e2' : fX12_least_l32 100000 (nI g) (nI k) (1 : Int32) ζ1 = some (x, ξ') := e2
      have e1' : fX3_leastWord (nI g) (nI k) μ = some (x, μ') := by unfold fX3_leastWord; exact e1
      rw [if_pos d, if_neg one_n0, if_neg one_n0, e1', zBp_some, p1, zBd_some, e2']
      exact ⟨_, _, _, rfl, rfl⟩
    · rw [if_neg d, if_pos rfl, if_pos rfl]
      exact ⟨_, _, _, rfl, rfl⟩
  · rw [g1, g2, zBd_some, zBd_some, if_pos rfl, if_pos rfl]
    exact ⟨_, _, _, rfl, rfl⟩
/-- needs -/
theorem pNeeds_l {g k cn cl cg ct : Nat} {U : Int32} {μi μi' ζ : gM} (hg : g < cg) (hk : k < cn) (gi : GD 34 μi ζ) (nci : NC μi ζ cn cl cg ct) (hU : fX3_holderWithCuts (nI g) (nI k) (ζ 272 2) μi = some (U, μi')) : ∀ (m l : Nat) (acc : Int32) (μ ξ : gM), GD 34 μ ζ → NC μ ζ cn cl cg ct → ONP ζ ξ → l ≤ cl → 8 < l + m → ∃ x μ' ξ', fX11_needs_l44 m (nI g) (nI k) U acc (nI l) μ = some (x, μ') ∧ fX12_needs_l57 m (nI g) (nI k) U acc (nI l) ξ = some (x, ξ') := by
  have b8 := nci.1.2.1
  intro m
  induction m with
  | zero => intro l acc μ ξ _ _ _ h1 h2; omega
  | succ m ih =>
    intro l acc μ ξ gd nc on h1 h2
    rw [fX11_needs_l44, fX12_needs_l57, nc.2.1.2.1, on.1, nc.2.2.2.1]
    by_cases c : l = cl
    · have w := (nIle (a := cl) (b := l) (by omega) (by omega)).mpr (by omega)
      obtain ⟨ξ3, q1, -⟩ := mFromP (v := acc) (ξ := ξ)
      rw [if_pos w, if_pos w, q1, zBp_some]
      exact ⟨_, _, _, rfl, rfl⟩
    · have w : ¬ nI cl ≤ nI l := fun w => by have := (nIle (by omega) (by omega)).mp w; omega
      have e1 : nI l + (1 : Int32) = nI (l + 1) := nI_1 l
      obtain ⟨c0, x0, -⟩ := gd.ctx
      have c2 : μ 34 2 = ζ 272 2 := x0.2.1.2.2.1
      obtain ⟨ξ1, t1, t2, t3⟩ := mTakeP (ξ := ξ)
      have on1 := on.take t2
      have x9 : ξ1 269 = ζ 269 := on1.1
      have row : ∀ i, i < 490 → ξ1 272 i = ζ 272 i := fun i hi => by rw [t3 i hi]; exact on.2 i hi
      rw [if_neg w, if_neg w, zLt_eq, t1, zBd_some, zLtM, row 2 (by decide), c2]
      generalize eB : ζ 272 2 ||| ((1 : Int32) <<< (nI l &&& 31)) = B
      by_cases d : B = ζ 272 2
      · obtain ⟨x, μ', ξ', a1, a2, a3, -, r⟩ := pHwc (k := k) (v := ζ 272 2) (gi.to (μ' := μi) (ξ' := ξ1) (fun _ _ => rfl) x9 row) (nci.fr rfl rfl x9) hg hk
        rw [hU] at a1
        obtain ⟨rfl, -⟩ := Prod.mk.inj (Option.some.inj a1)
        rw [if_pos d, d, a2, zBd_some, a3, zBd_some, if_pos rfl]
        unfold fX12_needs_n111 fX12_flag
        rw [if_pos rfl, zBd_some, sh0 l (by omega), or0, zLt_eq, zLt_eq, zLt_eq, e1]
        exact ih (l + 1) acc μ ξ' gd nc ((on1.up (by decide) (by decide)).rf' r) (by omega) (by omega)
      · obtain ⟨x, μ', ξ', a1, a2, a3, fm, r⟩ := pHwc (k := k) (v := B) (gd.to (μ' := μ) (ξ' := ξ1) (fun _ _ => rfl) x9 row) (nc.fr rfl rfl x9) hg hk
        have gd' := gd.to fm rfl (fun _ _ => rfl)
        have nc' := nc.fr (fm 4 (by decide)) (fm 5 (by decide)) (ξ' := ζ) rfl
        have on' := (on1.up (a := 272) (i := 2) (v := B) (by decide) (by decide)).rf' r
        rw [if_neg d, a1, zBp_some, a2, zBd_some, a3, zBd_some]
        unfold fX12_needs_n111 fX12_flag
        by_cases q : x = U
        · rw [if_pos q, if_pos q, if_pos rfl, zBd_some, sh0 l (by omega), or0, zLt_eq, zLt_eq, zLt_eq, e1]
          exact ih (l + 1) acc μ' ξ' gd' nc' on' (by omega) (by omega)
        · rw [if_neg q, if_neg q, if_neg one_n0, zBd_some, zLt_eq, zLt_eq, zLt_eq, zLt_eq, e1]
          exact ih (l + 1) _ μ' ξ' gd' nc' on' (by omega) (by omega)
theorem pNeedsV {a1 a2 : Int32} {μ ξ : gM} (h : LIVE μ ξ) : ∃ v μ' ξ', fX11_needs a1 a2 μ = some (v, μ') ∧ fX12_needs a1 a2 ξ = some (v, ξ') := by
  have l0 := h.u0
  unfold fX11_needs fX12_needs
  rw [zLt_eq]
  generalize gUp ξ 267 0 0 = ζ at l0 ⊢
  obtain ⟨cn, cl, cg, ct, nc⟩ := l0.nc
  have tb := l0.gd.tb
  obtain ⟨c0, x0, -⟩ := l0.gd.ctx
  obtain ⟨w1, w2⟩ := wG3 l0.tick tb
  rcases pairG (a1 := a1) (a2 := a2) nc with ⟨g, k, hg, hk, rfl, rfl, g1, g2, g3⟩ | ⟨g1, g2 | ⟨g2, g3⟩⟩
  · rw [g1, g2, zBd_some, zBd_some, if_neg one_n0, if_neg one_n0, g3, zBd_some, if_neg one_n0, w1, w2, zBd_some, zBd_some]
    by_cases d : tkI ζ + 300 ≤ 9999
    · obtain ⟨ζ1, p1, on, p2⟩ := mToP' (ζ := ζ)
      have c2 : μ 34 2 = ζ 272 2 := x0.2.1.2.2.1
      have z2 : ζ1 272 2 = ζ 272 2 := by rw [p2 272 (by decide)]
      obtain ⟨x, μ', ξ', e1, e2, e3, fm, r⟩ := pHwc (k := k) (v := ζ 272 2) (l0.gd.to (μ' := μ) (ξ' := ζ1) (fun _ _ => rfl) (p2 269 (by decide)) (fun i _ => by rw [p2 272 (by decide)])) (nc.fr rfl rfl (p2 269 (by decide))) hg hk
      have idd : gUp ζ1 272 2 (ζ 272 2) = ζ1 := by rw [← z2]; exact gUp_id ζ1 272 2
      rw [idd] at e2 r
      obtain ⟨y, μ'', ξ'', f1, f2⟩ := pNeeds_l (U := x) hg hk l0.gd nc e1 100000 0 0 μ' ξ' (l0.gd.to fm rfl (fun _ _ => rfl)) (nc.fr (fm 4 (by decide)) (fm 5 (by decide)) rfl) (on.rf' r) (by omega) (by omega)
      have f1' : fX11_needs_l44 100000 (nI g) (nI k) x (0 : Int32) (0 : Int32) μ' = some (y, μ'') := f1
      have f2' : fX12_needs_l57 100000 (nI g) (nI k) x (0 : Int32) (0 : Int32) ξ' = some (y, ξ'') := f2
      rw [if_pos d, if_neg one_n0, if_neg one_n0, c2, e1, zBp_some, f1', p1, zBd_some, e2, zBd_some, e3, zBd_some, f2']
      exact ⟨_, _, _, rfl, rfl⟩
    · rw [if_neg d, if_pos rfl, if_pos rfl]
      exact ⟨_, _, _, rfl, rfl⟩
  · rw [g1, g2, zBd_some, zBd_some, if_pos rfl, if_pos rfl]
    exact ⟨_, _, _, rfl, rfl⟩
  · rw [g1, g2, zBd_some, zBd_some, if_pos rfl, if_neg one_n0, g3, zBd_some, if_pos rfl]
    exact ⟨_, _, _, rfl, rfl⟩
/-- a step, seen tick by tick -/
theorem PGD.step2 {s g n cn cl cg ct d : Nat} {μ ξ : gM} (hs : 34 ≤ s) (h : PGD s g n cn cl cg ct μ ξ) (d1 : 1 ≤ d) (d2 : d ≤ 900) (t0 : 0 ≤ tkI ξ) (tb : tkI ξ + (d : Int) ≤ 100000) : ∃ q μ' ξ', 1 ≤ q ∧ q ≤ d ∧ fX10_step s (nI d) μ = some (nI q, μ') ∧ mTk q ξ = some ξ' ∧ PGD s g n cn cl cg ct μ' ξ' ∧ TF s μ μ' ∧ tkI ξ' = tkI ξ + (q : Int) ∧ ∀ i, i ≤ q → ∃ μi ξi, mTk i ξ = some ξi ∧ PGD s g n cn cl cg ct μi ξi ∧ tkI ξi = tkI ξ + (i : Int) ∧ (i < q → QUI s μ μi) ∧ (1 ≤ i → μi (s + 5) = μ' (s + 5)) := by
  obtain ⟨nx, lo, hi, w⟩ := h.ws ⟨t0, by omega⟩
  have td : (nI d).toInt = d := tN (by omega)
  have n0 : μ s 0 = ξ 272 0 := by
    obtain ⟨c, x, -⟩ := h.cg
    exact x.2.1.1
  rcases cStep2 (most := nI d) hs w (by rw [n0, td]; exact tb) with e | ⟨q, μ1, q1, q2, e1, e2, e3⟩
  · obtain ⟨μ1, ξ1, a1, a2, a3, a4, a5, a6⟩ := h.tick hs ⟨t0, by omega⟩
    have m1 : mTk 1 ξ = some ξ1 := by rw [mTk, a2, zBd_some, mTk]
    refine ⟨1, μ1, ξ1, by omega, by omega, by rw [e, a1]; rfl, m1, a3, a4, by omega, fun i hi => ?_⟩
    have : i = 0 ∨ i = 1 := by omega
    rcases this with rfl | rfl
    · exact ⟨μ, ξ, rfl, h, by omega, fun _ => QUI.rf _ _, fun w => by omega⟩
    · exact ⟨μ1, ξ1, m1, a3, by omega, fun w => by omega, fun _ => rfl⟩
  · obtain ⟨μq, ξq, f1, f2, hq, tq, rq, kq⟩ := PGD.ticks hs q μ ξ h t0 (by omega)
    rw [e2] at f1
    obtain rfl := Option.some.inj f1
    have k5 : μ1 (s + 5) = μ (s + 5) := by
      obtain ⟨μq', g1, qe⟩ := e3 q (Nat.le_refl _)
      rw [e2] at g1
      obtain rfl := Option.some.inj g1
      exact qe.1 _ (by omega) (by omega) (by omega) (by omega)
    refine ⟨q, μ1, ξq, q1, by omega, e1, f2, hq, tq, kq, fun i hi => ?_⟩
    obtain ⟨μi, ξi, g1, g2, g3, -, -, g6⟩ := PGD.ticks hs i μ ξ h t0 (by omega)
    obtain ⟨μi', g1', qe⟩ := e3 i hi
    rw [g1] at g1'
    obtain rfl := Option.some.inj g1'
    exact ⟨μi, ξi, g2, g3, g6, fun _ => qe, fun _ => by rw [k5]; exact qe.1 _ (by omega) (by omega) (by omega) (by omega)⟩
theorem mTk_s {i : Nat} {ξ ξ1 ξ2 : gM} (h1 : mTk i ξ = some ξ1) (h2 : mTk (i + 1) ξ = some ξ2) : fX12_tickGoes ξ1 = some ξ2 := by
  rw [mTk_add i 1 ξ ξ1 h1, mTk] at h2
  obtain ⟨ξ3, e, h3⟩ := bdI h2
  rw [mTk] at h3
  obtain rfl := Option.some.inj h3
  exact e
/-- stands -/
theorem mStands {g k n cn cl cg ct N q y A hb : Nat} {M : Nat} {ξ : gM} {H : Int32} (hg : g < 5) (hk : k < 6) (hN : N ≤ 500) (hq : y + q ≤ N) (hH : hb = if bt H k = true then 1 else 0) (al : ∀ i, i ≤ q → ∃ μi ξi, mTk i ξ = some ξi ∧ PGD 249 g n cn cl cg ct μi ξi ∧ (1 ≤ i → μi (249 + 5) g = H)) : ∀ j, j ≤ q → ∃ ξj, mTk j ξ = some ξj ∧ fX12_stands_l46 (M + j) (nI g) (nI k) (nI N) (nI A) (nI y) ξ = fX12_stands_l46 M (nI g) (nI k) (nI N) (nI (A + j * hb)) (nI (y + j)) ξj := by
  intro j
  induction j generalizing M with
  | zero => intro _; exact ⟨ξ, rfl, by rw [Nat.zero_mul]; rfl⟩
  | succ j ih =>
    intro hj
    obtain ⟨ξj, e1, e2⟩ := ih (M := M + 1) (by omega)
    obtain ⟨μi, ξi, a1, a2, a3⟩ := al (j + 1) hj
    have tg := mTk_s e1 a1
    obtain ⟨cc, x, u⟩ := a2.cg
    refine ⟨ξi, a1, ?_⟩
    rw [show M + (j + 1) = M + 1 + j by omega, e2, fX12_stands_l46, if_neg (fun w => by have := (nIle (by omega) (by omega)).mp w; omega), tg, zBd_some, mDoesH u hg hk, zBd_some, a3 (by omega)]
    have ef : fX12_flag (if bt H k = true then 1 else 0) ξi = some (nI hb) := by
      rw [hH]
      unfold fX12_flag
      by_cases c : bt H k = true
      · rw [if_pos c, if_pos c, if_neg one_n0]; rfl
      · rw [if_neg c, if_neg c, if_pos rfl]; rfl
    rw [ef, zBd_some, zLt_eq, zLt_eq, nI_add, show nI (y + j) + (1 : Int32) = nI (y + j + 1) from nI_1 _, Nat.add_assoc A, show j * hb + hb = (j + 1) * hb by rw [Nat.add_mul, Nat.one_mul], Nat.add_assoc y]
theorem pStands_l {g k n cn cl cg ct N : Nat} (hg : g < 5) (hk : k < 6) (hN : N ≤ 500) : ∀ (d m y A : Nat) (μ ξ : gM), y + d = N → d < m → PGD 249 g n cn cl cg ct μ ξ → 0 ≤ tkI ξ → tkI ξ + (d : Int) ≤ 100000 → ∃ v μ' ξ', fX3_ticksHeld_l11 m (nI g) (nI k) (nI N) (nI A) (nI y) μ = some (v, μ') ∧ ∀ m2, d < m2 → fX12_stands_l46 m2 (nI g) (nI k) (nI N) (nI A) (nI y) ξ = some (v, ξ') := by
  intro d
  induction d using Nat.strongRecOn with
  | _ d ih =>
    intro m y A μ ξ hy hm h t0 tb
    obtain ⟨m, rfl⟩ : ∃ m', m = m' + 1 := ⟨m - 1, by omega⟩
    rw [fX3_ticksHeld_l11]
    by_cases d0 : d = 0
    · subst d0
      have w := (nIle (a := N) (b := y) (by omega) (by omega)).mpr (by omega)
      obtain ⟨ξ3, q1, -⟩ := mFromP (v := nI A) (ξ := ξ)
      rw [if_pos w]
      refine ⟨_, _, ξ3, rfl, fun m2 h2 => ?_⟩
      obtain ⟨m2, rfl⟩ : ∃ m', m2 = m' + 1 := ⟨m2 - 1, by omega⟩
      rw [fX12_stands_l46, if_pos w, q1, zBp_some]
    · have es : nI N - nI y = nI d := by rw [pk_sub (by omega), show N - y = d by omega]
      obtain ⟨q, μ1, ξ1, q1, q2, e1, e2, h1, t1, k1, al⟩ := h.step2 (by decide) (d := d) (by omega) (by omega) t0 tb
      rw [if_neg (fun w => by have := (nIle (by omega) (by omega)).mp w; omega), es, e1, zBp_some, zLt_eq, zLt_eq, zMx_n q1 (by omega), nI_add, cHeldB hg (by omega), zBd_some]
      have rf : ∀ M, ∃ ξj, mTk q ξ = some ξj ∧ fX12_stands_l46 (M + q) (nI g) (nI k) (nI N) (nI A) (nI y) ξ = fX12_stands_l46 M (nI g) (nI k) (nI N) (nI (A + q * (if bt (μ1 (249 + 5) g) k = true then 1 else 0))) (nI (y + q)) ξj := fun M => mStands (M := M) (H := μ1 (249 + 5) g) hg hk hN (by omega) rfl (fun i hi => by
        obtain ⟨μi, ξi, a1, a2, -, -, a5⟩ := al i hi
        exact ⟨μi, ξi, a1, a2, fun w => by rw [a5 w]⟩) q (Nat.le_refl _)
      have go : ∃ v μ' ξ', fX3_ticksHeld_l11 m (nI g) (nI k) (nI N) (nI (A + q * (if bt (μ1 (249 + 5) g) k = true then 1 else 0))) (nI (y + q)) μ1 = some (v, μ') ∧ ∀ m2, d - q < m2 → fX12_stands_l46 m2 (nI g) (nI k) (nI N) (nI (A + q * (if bt (μ1 (249 + 5) g) k = true then 1 else 0))) (nI (y + q)) ξ1 = some (v, ξ') := ih (d - q) (by omega) m (y + q) _ μ1 ξ1 (by omega) (by omega) h1 (by omega) (by omega)
      obtain ⟨v, μ', ξ', x1, x2⟩ := go
      refine ⟨v, μ', ξ', ?_, fun m2 h2 => ?_⟩
      · by_cases c : bt (μ1 (249 + 5) g) k = true
        · rw [if_pos c] at x1
          rw [if_pos c, if_neg one_n0, zLt_eq, nI_add, ← x1, Nat.mul_one]
        · rw [if_neg c] at x1
          rw [if_neg c, if_pos rfl, zLt_eq, add0, ← x1, Nat.mul_zero, Nat.add_zero]
      · obtain ⟨ξj, y1, y2⟩ := rf (m2 - q)
        rw [e2] at y1
        obtain rfl := Option.some.inj y1
        rw [show m2 = m2 - q + q by omega, y2]
        exact x2 (m2 - q) (by omega)
theorem pStandsV {a1 a2 a3 : Int32} {μ ξ : gM} (h : LIVE μ ξ) : ∃ v μ' ξ', fX11_stands a1 a2 a3 μ = some (v, μ') ∧ fX12_stands a1 a2 a3 ξ = some (v, ξ') := by
  have l0 := h.u0
  unfold fX11_stands fX12_stands
  rw [zLt_eq]
  generalize gUp ξ 267 0 0 = ζ at l0 ⊢
  obtain ⟨cn, cl, cg, ct, nc⟩ := l0.nc
  have tb := l0.gd.tb
  obtain ⟨c0, x0, -⟩ := l0.gd.ctx
  rcases memG (a1 := a1) (a2 := a2) x0.1 nc with ⟨g, k, m, rfl, rfl, g1, g2⟩ | ⟨g1, g2⟩
  · rw [g1, g2, zBd_some, zBd_some, if_neg one_n0, if_neg one_n0, mSpan tb, cSpan l0.tick tb, zBd_some]
    by_cases c : (1 ≤ a3.toInt ∧ a3.toInt ≤ 500) ∧ tkI ζ + a3.toInt ≤ 9999
    · obtain ⟨N, n1, n2, rfl⟩ := spanG (M := 500) (by decide) (by decide) c.1
      obtain ⟨ζ1, p1, on, p2⟩ := mToP' (ζ := ζ)
      have gd1 := l0.gd.to (μ' := μ) (ξ' := ζ1) (fun _ _ => rfl) (p2 269 (by decide)) (fun i _ => by rw [p2 272 (by decide)])
      obtain ⟨n, μ1, e1, pg, f⟩ := pOpen gd1 (nc.fr rfl rfl (p2 269 (by decide))) (x0.1.mlt nc m).2
      have tb1 := gd1.tb
      obtain ⟨v, μ', ξ', y1, y2⟩ := pStands_l (N := N) m.1 m.2.1 n1 N 100000 0 0 μ1 ζ1 (by omega) (by omega) pg tb1.1 (by omega)
      have y1' : fX3_ticksHeld_l11 100000 (nI g) (nI k) (nI N) (0 : Int32) (0 : Int32) μ1 = some (v, μ') := y1
      have y2' : fX12_stands_l46 100000 (nI g) (nI k) (nI N) (0 : Int32) (0 : Int32) ζ1 = some (v, ξ') := y2 100000 (by omega)
      unfold fX3_ticksHeld
      rw [if_pos c, if_pos c, if_neg one_n0, e1, zBd_some, y1', zBp_some, p1, zBd_some, y2']
      exact ⟨_, _, _, rfl, rfl⟩
    · rw [if_neg c, if_neg c, if_pos rfl]
      exact ⟨_, _, _, rfl, rfl⟩
  · rw [g1, g2, zBd_some, zBd_some, if_pos rfl, if_pos rfl]
    exact ⟨_, _, _, rfl, rfl⟩
