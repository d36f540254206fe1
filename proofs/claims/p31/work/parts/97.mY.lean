/-! many ticks -/
def mTk : Nat → gM → Option gM
  | 0, ξ => some ξ
  | k + 1, ξ => zBd (fX12_tickGoes ξ) (mTk k)
/-- a state in which both may be run, all groups -/
def RS (s n : Nat) (F : Prop) (c : Int32) (cn cl cg ct : Nat) (μ ξ : gM) : Prop := SR s F c μ ξ ∧ NC μ ξ cn cl cg ct ∧ PLN s n μ ξ ∧ RNG s cg μ ∧ ∃ nx, NX s n nx (tkI ξ) μ ξ
theorem RNG.tf {s cg : Nat} {μ μ' : gM} (h : RNG s cg μ) (t : TF s μ μ') : RNG s cg μ' := by
  unfold RNG at *
  rw [t.2 2 (by decide), t.2 3 (by decide)]
  exact h
theorem RS.tick {s n cn cl cg ct : Nat} {F : Prop} {c : Int32} {μ ξ : gM} (hs : 34 ≤ s) (h : RS s n F c cn cl cg ct μ ξ) (tb : 0 ≤ tkI ξ ∧ tkI ξ ≤ 100000) : ∃ μ' ξ', cTick s μ = some (1, μ') ∧ fX12_tickGoes ξ = some ξ' ∧ RS s n F c cn cl cg ct μ' ξ' ∧ TF s μ μ' ∧ RF ξ ξ' ∧ tkI ξ' = tkI ξ + 1 := by
  obtain ⟨h1, h2, h3, h4, nx, h5⟩ := h
  obtain ⟨nx', μ', ξ', e1, e2, r1, t1, t2, t3, r2⟩ := pTick hs h1 h2 h3 h5 h4 tb
  exact ⟨μ', ξ', e1, e2, ⟨r1, h2.tf hs t1 t2, h3.mv t1 t2, h4.tf t1, nx', r2⟩, t1, t2, t3⟩
theorem RS.ticks {s n cn cl cg ct : Nat} {F : Prop} {c : Int32} (hs : 34 ≤ s) : ∀ (q : Nat) (μ ξ : gM), RS s n F c cn cl cg ct μ ξ → 0 ≤ tkI ξ → tkI ξ + (q : Int) ≤ 100000 → ∃ μ' ξ', cTk s q μ = some μ' ∧ mTk q ξ = some ξ' ∧ RS s n F c cn cl cg ct μ' ξ' ∧ TF s μ μ' ∧ RF ξ ξ' ∧ tkI ξ' = tkI ξ + (q : Int) := by
  intro q
  induction q with
  | zero => intro μ ξ h t0 tb; exact ⟨μ, ξ, rfl, rfl, h, TF.rf _ _, RF.rf _, by omega⟩
  | succ q ih =>
    intro μ ξ h t0 tb
    obtain ⟨μ1, ξ1, e1, e2, h1, t1, r1, k1⟩ := h.tick hs ⟨t0, by omega⟩
    obtain ⟨μ', ξ', f1, f2, h2, t2, r2, k2⟩ := ih μ1 ξ1 h1 (by omega) (by omega)
    refine ⟨μ', ξ', ?_, ?_, h2, t1.tr t2, r1.tr r2, by omega⟩
    · rw [cTk, e1, zBp_some, f1]
    · rw [mTk, e2, zBd_some, f2]
theorem cTk_add {s : Nat} : ∀ (a b : Nat) (μ μ' : gM), cTk s a μ = some μ' → cTk s (a + b) μ = cTk s b μ' := by
  intro a
  induction a with
  | zero =>
    intro b μ μ' h
    rw [cTk] at h
    obtain rfl := Option.some.inj h
    rw [Nat.zero_add]
  | succ a ih =>
    intro b μ μ' h
    rw [cTk] at h
    obtain ⟨x, μ1, e, h⟩ := bpI h
    rw [show a + 1 + b = (a + b) + 1 by omega, cTk, e, zBp_some]
    exact ih b μ1 μ' h
theorem mTk_add : ∀ (a b : Nat) (ξ ξ' : gM), mTk a ξ = some ξ' → mTk (a + b) ξ = mTk b ξ' := by
  intro a
  induction a with
  | zero =>
    intro b ξ ξ' h
    rw [mTk] at h
    obtain rfl := Option.some.inj h
    rw [Nat.zero_add]
  | succ a ih =>
    intro b ξ ξ' h
    rw [mTk] at h
    obtain ⟨ξ1, e, h⟩ := bdI h
    rw [show a + 1 + b = (a + b) + 1 by omega, mTk, e, zBd_some]
    exact ih b ξ1 ξ' h
theorem RS.ws {s n cn cl cg ct : Nat} {F : Prop} {c : Int32} {μ ξ : gM} (h : RS s n F c cn cl cg ct μ ξ) (tb : 0 ≤ tkI ξ ∧ tkI ξ ≤ 100000) : ∃ nx, WS s n nx 0 cg μ := by
  obtain ⟨h1, h2, ⟨p1, p2, p3, p4, p5, p6⟩, h4, nx, q1, q2, q3, q4⟩ := h
  have n0 : μ s 0 = ξ 272 0 := h1.1.2.1.1
  refine ⟨nx, fun g hg => (h1.2.1 g hg).h63, ⟨h4.1, h4.2, Nat.zero_le _, ?_⟩, ⟨p1, q1, p2, q2⟩, ?_, fun hn => ?_⟩
  · exact h2.1.2.2.1
  · rw [n0]; exact tb
  · rw [n0, p4 (5 * nx) (by omega)]
    exact ⟨q4 nx (Nat.le_refl _) hn, (p5 nx hn).1.2⟩
theorem zMx_n {q : Nat} (h1 : 1 ≤ q) (h2 : q < 100000) : zMx (nI q) 1 = nI q := by
  have z1 : (1 : Int32).toInt = 1 := rfl
  unfold zMx
  rw [if_neg (fun w => by have := Int32.lt_iff_toInt_lt.mp w; rw [tN (by omega)] at this; omega)]
/-- the class runs by steps, the reference tick by tick -/
theorem RS.run {s n cn cl cg ct : Nat} {F : Prop} {c : Int32} (hs : 34 ≤ s) {N : Nat} (hN : N ≤ 900) : ∀ (d m y : Nat) (μ ξ : gM), y + d = N → d < m → RS s n F c cn cl cg ct μ ξ → 0 ≤ tkI ξ → tkI ξ + (d : Int) ≤ 100000 → ∃ μ' ξ', fX10_run_l2 s m (nI N) (nI y) μ = some μ' ∧ mTk d ξ = some ξ' ∧ RS s n F c cn cl cg ct μ' ξ' ∧ TF s μ μ' ∧ RF ξ ξ' ∧ tkI ξ' = tkI ξ + (d : Int) := by
  intro d
  induction d using Nat.strongRecOn with
  | _ d ih =>
    intro m y μ ξ hy hm h t0 tb
    obtain ⟨m, rfl⟩ : ∃ m', m = m' + 1 := ⟨m - 1, by omega⟩
    rw [fX10_run_l2]
    by_cases d0 : d = 0
    · subst d0
      rw [if_pos ((nIle (by omega) (by omega)).mpr (by omega))]
      exact ⟨μ, ξ, rfl, rfl, h, TF.rf _ _, RF.rf _, by omega⟩
    · rw [if_neg (fun w => by have := (nIle (by omega) (by omega)).mp w; omega)]
      have es : nI N - nI y = nI d := nI_of' ((iS (tN (m := N) (by omega)) (tN (m := y) (by omega)) (by omega) (by omega)).trans (by omega))
      have n0 : μ s 0 = ξ 272 0 := h.1.1.2.1.1
      obtain ⟨nx, ws⟩ := h.ws ⟨t0, by omega⟩
      have td : (nI d).toInt = d := tN (by omega)
      rw [es]
      have go : ∀ (q : Nat) (μ1 : gM), 1 ≤ q → q ≤ d → fX10_step s (nI d) μ = some (nI q, μ1) → cTk s q μ = some μ1 → ∃ μ' ξ', zBp (fX10_step s (nI d) μ) (fun x1 μ2 => zLt (nI y + (zMx x1 (1 : Int32))) (fun x3 => (fX10_run_l2 s m (nI N) x3 μ2))) = some μ' ∧ mTk d ξ = some ξ' ∧ RS s n F c cn cl cg ct μ' ξ' ∧ TF s μ μ' ∧ RF ξ ξ' ∧ tkI ξ' = tkI ξ + (d : Int) := fun q μ1 h1 h2 e1 e2 => by
        obtain ⟨μq, ξq, f1, f2, hq, tq, rq, kq⟩ := h.ticks hs q μ ξ t0 (by omega)
        rw [e2] at f1
        obtain rfl := Option.some.inj f1
        rw [e1, zBp_some, zLt_eq, zMx_n h1 (by omega), nI_add]
        obtain ⟨μ', ξ', g1, g2, h2', t2, r2, k2⟩ := ih (d - q) (by omega) m (y + q) μ1 ξq (by omega) (by omega) hq (by omega) (by omega)
        refine ⟨μ', ξ', g1, ?_, h2', tq.tr t2, rq.tr r2, by omega⟩
        rw [show d = q + (d - q) by omega, mTk_add q (d - q) ξ ξq f2]
        exact g2
      rcases cStep (most := nI d) hs ws (by rw [n0, td]; exact tb) with e | ⟨q, μ1, q1, q2, e1, e2⟩
      · obtain ⟨μ1, ξ1, e1, -⟩ := h.tick hs ⟨t0, by omega⟩
        exact go 1 μ1 (by decide) (by omega) (by rw [e, e1]; rfl) (by rw [cTk, e1, zBp_some]; rfl)
      · exact go q μ1 q1 (by omega) e1 e2
theorem mGoesL : ∀ (d m N y : Nat) (ξ : gM), N ≤ 900 → y + d = N → d < m → fX12_goes_l2 m (nI N) (nI y) ξ = mTk d ξ := by
  intro d
  induction d with
  | zero =>
    intro m N y ξ hN hy hm
    obtain ⟨m, rfl⟩ : ∃ m', m = m' + 1 := ⟨m - 1, by omega⟩
    rw [fX12_goes_l2, if_pos ((nIle (by omega) (by omega)).mpr (by omega)), mTk]
  | succ d ih =>
    intro m N y ξ hN hy hm
    obtain ⟨m, rfl⟩ : ∃ m', m = m' + 1 := ⟨m - 1, by omega⟩
    rw [fX12_goes_l2, if_neg (fun w => by have := (nIle (by omega) (by omega)).mp w; omega), mTk]
    congr 1
    funext ξ1
    rw [zLt_eq, show nI y + (1 : Int32) = nI (y + 1) from nI_1 y]
    exact ih m N (y + 1) ξ1 hN (by omega) (by omega)
theorem mTicksL : ∀ (d m N y : Nat) (ξ ξ' : gM), N ≤ 900 → y + d = N → d < m → mTk d ξ = some ξ' → fX12_ticks_l47 m (nI N) (nI y) ξ = some (ξ' 272 0, ξ') := by
  intro d
  induction d with
  | zero =>
    intro m N y ξ ξ' hN hy hm h
    obtain ⟨m, rfl⟩ : ∃ m', m = m' + 1 := ⟨m - 1, by omega⟩
    rw [mTk] at h
    obtain rfl := Option.some.inj h
    rw [fX12_ticks_l47, if_pos ((nIle (by omega) (by omega)).mpr (by omega))]
  | succ d ih =>
    intro m N y ξ ξ' hN hy hm h
    obtain ⟨m, rfl⟩ : ∃ m', m = m' + 1 := ⟨m - 1, by omega⟩
    rw [mTk] at h
    obtain ⟨ξ1, e, h⟩ := bdI h
    rw [fX12_ticks_l47, if_neg (fun w => by have := (nIle (by omega) (by omega)).mp w; omega), e, zBd_some, zLt_eq, show nI y + (1 : Int32) = nI (y + 1) from nI_1 y]
    exact ih m N (y + 1) ξ1 ξ' hN (by omega) (by omega) h
