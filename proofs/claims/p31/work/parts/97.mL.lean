/-- counts of gaps and doubles are no part of it -/
theorem CTX.c67 {s : Nat} {F : Prop} {c : Int32} {μ ξ μ' : gM} (h : CTX s F c μ ξ) (hs : 34 ≤ s) (e : ∀ a, a ≠ s + 6 → a ≠ s + 7 → μ' a = μ a) : CTX s F c μ' ξ := by
  obtain ⟨hn, hu, hw, ha⟩ := h
  refine ⟨hn.fr (fun a h1 h2 => e a (by omega) (by omega)) rfl, ?_, ?_, ?_⟩
  · unfold NU at *
    rw [e s (by omega) (by omega)]
    exact hu
  · unfold MW at *
    rw [e (s + 9) (by omega) (by omega), e (s + 10) (by omega) (by omega), e (s + 11) (by omega) (by omega)]
    exact hw
  · unfold AX LOG at *
    rw [e s (by omega) (by omega), e (s + 3) (by omega) (by omega), e (s + 3 + 1) (by omega) (by omega), e (s + 14) (by omega) (by omega)]
    exact ha
theorem GRS.c67 {s : Nat} {μ ξ μ' : gM} (h : GRS s μ ξ) (e : ∀ a, a ≠ s + 6 → a ≠ s + 7 → μ' a = μ a) : GRS s μ' ξ := fun g hg => (h g hg).cg hg (fun a ha => e a (by omega) (by omega)) rfl (fun _ _ => rfl)
theorem inc1 {o : Int32} (h : o = 0 ∨ o = 1) : inc o 1 = o := by
  unfold inc
  rcases h with rfl | rfl
  · rw [if_pos rfl]
  · rw [if_neg one_n0]
/-- slots of the state that groups leave alone -/
def SL (s : Nat) (μ μ' : gM) : Prop := ∀ i, i ≠ 5 → i ≠ 6 → i ≠ 7 → μ' s i = μ s i
def RLo (ξ ξ' : gM) : Prop := ∀ i, i < 5 → ξ' 272 i = ξ 272 i
theorem SL.tr {s : Nat} {a b c : gM} (h : SL s a b) (k : SL s b c) : SL s a c := fun i h1 h2 h3 => (k i h1 h2 h3).trans (h i h1 h2 h3)
theorem RLo.tr {a b c : gM} (h : RLo a b) (k : RLo b c) : RLo a c := fun i hi => (k i hi).trans (h i hi)
theorem EG.rl {g : Nat} {ξ ξ' : gM} (h : EG g ξ ξ') : RLo ξ ξ' := fun i hi => h.2.2 i (by omega) (by omega) (by omega) (by omega) (by omega) (by omega) (by omega) (by omega) (by omega)
/-- a group goes by in both, the class counts it -/
theorem pGroup1 {s g : Nat} {F : Prop} {c : Int32} {μ ξ : gM} (hs : 34 ≤ s) (hg : g < 5) (h : CTX s F c μ ξ) (gs : GRS s μ ξ) (cnt : CNT s g μ ξ) : ∃ S μ1 μ2 μ3 μ' ξ', fX10_send s (nI g) μ = some (S, μ1) ∧ fX10_wind s (nI g) 1 μ1 = some μ2 ∧ fX10_deliver s (nI g) S μ2 = some μ3 ∧ fX10_tally s (nI g) 1 μ3 = some μ' ∧ fX12_groupGoes (nI g) ξ = some ξ' ∧ CTX s F c μ' ξ' ∧ GRS s μ' ξ' ∧ CNT s (g + 1) μ' ξ' ∧ TF s μ μ' ∧ RF ξ ξ' ∧ SL s μ μ' ∧ RLo ξ ξ' := by
  obtain ⟨S, μ1, μ2, μ3, ξ', e1, e2, e3, e4, c3, g3, d, e⟩ := pGroupGoes hs hg h (gs g hg)
  have gs3 : GRS s μ3 ξ' := gs.mv hg g3 d e
  have cn3 : CNT s g μ3 ξ' := cnt.mv (Nat.le_refl _) hg d e
  obtain ⟨μ', e5, t0, t1, t6, t7⟩ := cTally (s := s) (n := 1) hg g3.h63
  rw [c3.1.m11 hg, c3.2.1.2.1, inc1 (orp01 _ _ _)] at t6
  rw [c3.2.1.2.2.2.1, inc1 (dbl01 _ _)] at t7
  refine ⟨S, μ1, μ2, μ3, μ', ξ', e1, e2, e3, e5, e4, c3.c67 hs t0, gs3.c67 t0, fun j hj => ⟨fun w => ?_, fun w => ?_⟩, d.tf.tr ⟨fun a ha => t0 a (by omega) (by omega), fun i _ => by rw [t0 _ (by omega) (by omega)]⟩, e.rf' hg, fun i h1 h2 h3 => by rw [t0 s (by omega) (by omega)]; exact d.2.1 i h1 h2 h3, e.rl⟩
  · by_cases ej : j = g
    · subst ej
      rw [t6, t7, t0 (s + 5) (by omega) (by omega)]
      obtain ⟨u1, u2⟩ := (cn3 j hj).2 (Nat.le_refl _)
      rw [u1, u2]
      exact ⟨rfl, rfl⟩
    · rw [(t1 j ej).1, (t1 j ej).2, t0 (s + 5) (by omega) (by omega)]
      exact (cn3 j hj).1 (by omega)
  · unfold CN
    rw [(t1 j (by omega)).1, (t1 j (by omega)).2]
    exact (cn3 j hj).2 (by omega)
theorem pGroups_l {s cn cl cg ct : Nat} {F : Prop} {c : Int32} (hs : 34 ≤ s) : ∀ (m g : Nat) (μ ξ : gM), CTX s F c μ ξ → NC μ ξ cn cl cg ct → GRS s μ ξ → CNT s g μ ξ → (μ (s + 14) 3).toInt = (cg : Int) - 1 → g ≤ cg → 5 < g + m → ∃ μ' ξ', fX10_step_l26 s m (nI g) μ = some (1, gUp μ' s 0 (μ' s 0 + 1)) ∧ fX12_tickGoes_l47 m (nI g) ξ = fX12_tickGoes_l78 100000 (0 : Int32) (gUp ξ' 272 0 (ξ' 272 0 + 1)) ∧ CTX s F c μ' ξ' ∧ GRS s μ' ξ' ∧ CNT s cg μ' ξ' ∧ TF s μ μ' ∧ RF ξ ξ' ∧ SL s μ μ' ∧ RLo ξ ξ' := by
  intro m
  induction m with
  | zero => intro g μ ξ _ nc _ _ _ hk h2; exact absurd h2 (by have := nc.1.2.2.1; omega)
  | succ m ih =>
    intro g μ ξ h nc gs cnt hl hk h2
    have b5 := nc.1.2.2.1
    have tg : (nI g).toInt = g := tN (by omega)
    rw [fX10_step_l26, fX12_tickGoes_l47]
    unfold fX12_groups
    rw [zBd_some, nc.2.2.2.2.1]
    by_cases ck : g = cg
    · subst ck
      rw [if_pos (Int32.lt_iff_toInt_lt.mpr (by omega)), if_pos ((nIle (by omega) (by omega)).mpr (Nat.le_refl _)), zLt_eq, zLt_eq]
      exact ⟨μ, ξ, rfl, rfl, h, gs, cnt, TF.rf _ _, RF.rf _, fun _ _ _ _ => rfl, fun _ _ => rfl⟩
    · rw [if_neg (fun w => by have := Int32.lt_iff_toInt_lt.mp w; omega), if_neg (fun w => ck (by have := (nIle (by omega) (by omega)).mp w; omega))]
      obtain ⟨S, μ1, μ2, μ3, μ4, ξ1, e1, e2, e3, e4, e5, c4, g4, n4, t4, r4, s4, l4⟩ := pGroup1 hs (by omega) h gs cnt
      rw [e1, zBp_some, e2, zBd_some, e3, zBd_some, e4, zBd_some, e5, zBd_some, zLt_eq, zLt_eq, show nI g + (1 : Int32) = nI (g + 1) from nI_1 g]
      have nc4 : NC μ4 ξ1 cn cl cg ct := by
        unfold NC at *
        rw [r4.1 269 (by decide) (by decide) (by decide), t4.1 5 (by omega), t4.1 4 (by omega)]
        exact nc
      obtain ⟨μ', ξ', x1, x2, x3, x4, x5, x6, x7, x8, x9⟩ := ih (g + 1) μ4 ξ1 c4 nc4 g4 n4 (by rw [t4.2 3 (by decide)]; exact hl) (by omega) (by omega)
      exact ⟨μ', ξ', x1, x2, x3, x4, x5, t4.tr x6, r4.tr x7, s4.tr x8, l4.tr x9⟩
/-! the reference counts all groups -/
theorem mFlag {o : Int32} {ξ : gM} (h : o = 0 ∨ o = 1) : fX12_flag o ξ = some o := by
  unfold fX12_flag
  rcases h with rfl | rfl
  · rw [if_pos rfl]
  · rw [if_neg one_n0]
theorem mTal_l {s cg : Nat} {μ : gM} : ∀ (m k : Nat) (ξ : gM), NET μ ξ → ξ 269 2 = nI cg → cg ≤ 5 → GRS s μ ξ → k ≤ cg → 5 < k + m → ∃ ξ', fX12_tickGoes_l78 m (nI k) ξ = some ξ' ∧ (∀ a, a ≠ 272 → ξ' a = ξ a) ∧ (∀ i, i < 130 ∨ 140 ≤ i → ξ' 272 i = ξ 272 i) ∧ ∀ j, j < 5 → (j < k ∨ cg ≤ j → ξ' 272 (130 + j) = ξ 272 (130 + j) ∧ ξ' 272 (135 + j) = ξ 272 (135 + j)) ∧ (k ≤ j → j < cg → ξ' 272 (130 + j) = ξ 272 (130 + j) + orp (ξ 269 (48 + j)) (ξ 272 1) (μ (s + 5) j) ∧ ξ' 272 (135 + j) = ξ 272 (135 + j) + dbl (ξ 272 3) (μ (s + 5) j)) := by
  intro m
  induction m with
  | zero => intro k ξ _ _ h5 _ hk h2; exact absurd h2 (by omega)
  | succ m ih =>
    intro k ξ hn h2 h5 gs hk gm
    rw [fX12_tickGoes_l78]
    unfold fX12_groups
    rw [zBd_some, h2]
    by_cases ck : k = cg
    · subst ck
      rw [if_pos ((nIle (by omega) (by omega)).mpr (Nat.le_refl _))]
      exact ⟨ξ, rfl, fun _ _ => rfl, fun _ _ => rfl, fun j hj => ⟨fun _ => ⟨rfl, rfl⟩, fun h1 h2 => absurd h2 (by omega)⟩⟩
    · have k5 : k < 5 := by omega
      have i1 : (130 : Int32) + nI k = nI (130 + k) := nI_add 130 _
      have i2 : (135 : Int32) + nI k = nI (135 + k) := nI_add 135 _
      have g1 : gIn (nI (130 + k)) 490 = true := gI (by omega) (by decide)
      have g2 : gIn (nI (135 + k)) 490 = true := gI (by omega) (by decide)
      have c1 : (nI (130 + k)).toNatClampNeg = 130 + k := nI_clamp (by omega)
      have c2 : (nI (135 + k)).toNatClampNeg = 135 + k := nI_clamp (by omega)
      rw [if_neg (fun w => ck (by have := (nIle (by omega) (by omega)).mp w; omega)), zLt_eq, i1]
      unfold zCk
      rw [if_pos g1, mOrphan hn (gs k k5) k5, zBd_some, mFlag (orp01 _ _ _), zBd_some, if_pos g1, c1, zLt_eq, zLt_eq, i2, if_pos g2]
      generalize eν : gUp ξ 272 (130 + k) (ξ 272 (130 + k) + orp (ξ 269 (48 + k)) (ξ 272 1) (μ (s + 5) k)) = ν
      have wa : ∀ a, a ≠ 272 → ν a = ξ a := fun a ha => by rw [← eν, zUp_ne _ ha]
      have wi : ∀ i, i ≠ 130 + k → ν 272 i = ξ 272 i := fun i hi => by rw [← eν, zUp_slot _ hi]
      have gs1 : GRS s μ ν := fun g hg => (gs g hg).cg hg (fun _ _ => rfl) (wa 269 (by decide)) (fun i hi => wi i (by omega))
      have hn1 : NET μ ν := hn.fr (fun _ _ _ => rfl) (wa 269 (by decide))
      rw [mDouble hn1 (gs1 k k5) k5, zBd_some, mFlag (dbl01 _ _), zBd_some, if_pos g2, c2, zLt_eq, zLt_eq, wi 3 (by omega), wi (135 + k) (by omega), show nI k + (1 : Int32) = nI (k + 1) from nI_1 k]
      generalize eχ : gUp ν 272 (135 + k) (ξ 272 (135 + k) + dbl (ξ 272 3) (μ (s + 5) k)) = χ
      have xa : ∀ a, a ≠ 272 → χ a = ξ a := fun a ha => by rw [← eχ, zUp_ne _ ha, wa a ha]
      have xi : ∀ i, i ≠ 130 + k → i ≠ 135 + k → χ 272 i = ξ 272 i := fun i h1 h2 => by rw [← eχ, zUp_slot _ h2, wi i h1]
      have gs2 : GRS s μ χ := fun g hg => (gs g hg).cg hg (fun _ _ => rfl) (xa 269 (by decide)) (fun i hi => xi i (by omega) (by omega))
      obtain ⟨ξ', x1, x2, x3, x4⟩ := ih (k + 1) χ (hn.fr (fun _ _ _ => rfl) (xa 269 (by decide))) (by rw [xa 269 (by decide)]; exact h2) h5 gs2 (by omega) (by omega)
      refine ⟨ξ', x1, fun a ha => by rw [x2 a ha, xa a ha], fun i hi => by rw [x3 i hi, xi i (by omega) (by omega)], fun j hj => ⟨fun w => ?_, fun w1 w2 => ?_⟩⟩
      · obtain ⟨u1, u2⟩ := (x4 j hj).1 (by omega)
        rw [u1, u2, xi _ (by omega) (by omega), xi _ (by omega) (by omega)]
        exact ⟨rfl, rfl⟩
      · by_cases ej : j = k
        · subst ej
          obtain ⟨u1, u2⟩ := (x4 j hj).1 (by omega)
          rw [u1, u2]
          constructor
          · rw [← eχ, zUp_slot _ (by omega), ← eν, zUp_same]
          · rw [← eχ, zUp_same]
        · obtain ⟨u1, u2⟩ := (x4 j hj).2 (by omega) w2
          rw [u1, u2, xi (130 + j) (by omega) (by omega), xi (135 + j) (by omega) (by omega), xa 269 (by decide), xi 1 (by omega) (by omega), xi 3 (by omega) (by omega)]
          exact ⟨rfl, rfl⟩
/-- a state of the class and the reference's row, alike -/
def SR (s : Nat) (F : Prop) (c : Int32) (μ ξ : gM) : Prop := CTX s F c μ ξ ∧ GRS s μ ξ ∧ ∀ g, g < 5 → CN s g μ ξ
/-- the tick is one more -/
theorem CTX.tick {s : Nat} {F : Prop} {c v : Int32} {μ ξ : gM} (h : CTX s F c μ ξ) (hs : 34 ≤ s) : CTX s F c (gUp μ s 0 v) (gUp ξ 272 0 v) := by
  have wm : ∀ a, a ≠ s → gUp μ s 0 v a = μ a := fun a ha => zUp_ne _ ha
  have wx : ∀ a, a ≠ 272 → gUp ξ 272 0 v a = ξ a := fun a ha => zUp_ne _ ha
  have wi : ∀ i, i ≠ 0 → gUp ξ 272 0 v 272 i = ξ 272 i := fun i hi => zUp_slot _ hi
  have ws : ∀ i, i ≠ 0 → gUp μ s 0 v s i = μ s i := fun i hi => zUp_slot _ hi
  obtain ⟨hn, ⟨n0, n1, n2, n3, n4, n5⟩, hw, a1, a2, a3⟩ := h
  refine ⟨hn.fr (fun a h1 h2 => wm a (by omega)) (wx 269 (by decide)), ⟨by rw [zUp_same, zUp_same], by rw [ws 1 (by decide), wi 1 (by decide)]; exact n1, by rw [ws 2 (by decide), wi 2 (by decide)]; exact n2, by rw [ws 3 (by decide), wi 3 (by decide)]; exact n3, by rw [ws 4 (by decide), wi 4 (by decide)]; exact n4, by rw [ws 5 (by decide), wi 9 (by decide)]; exact n5⟩, fun g k m => ?_, by rw [wm _ (by omega)]; exact a1, by rw [wi 7 (by decide)]; exact a2, fun f => ?_⟩
  · rw [wx 269 (by decide)] at m
    rw [wm _ (by omega), wm _ (by omega), wm _ (by omega), wx 269 (by decide), wi 2 (by decide), wi _ (by omega)]
    exact hw g k m
  · obtain ⟨f1, f2, f3, f4⟩ := a3 f
    exact ⟨f1.cg (wm _ (by omega)) (wm _ (by omega)) (wi 7 (by decide)) (fun i hi => wi i (by omega)), by rw [ws 6 (by decide), wi 5 (by decide)]; exact f2, by rw [ws 7 (by decide), wi 6 (by decide)]; exact f3, by rw [wm _ (by omega), wx 267 (by decide)]; exact f4⟩
theorem GRS.tick {s : Nat} {v : Int32} {μ ξ : gM} (h : GRS s μ ξ) : GRS s (gUp μ s 0 v) (gUp ξ 272 0 v) := fun g hg => (h g hg).cg hg (fun a ha => zUp_ne _ (by omega)) (zUp_ne _ (by decide)) (fun i hi => zUp_slot _ (by omega))
/-- a tick behind its events -/
theorem pTickG {s cn cl cg ct : Nat} {F : Prop} {c : Int32} {μ ξ : gM} (hs : 34 ≤ s) (h : SR s F c μ ξ) (nc : NC μ ξ cn cl cg ct) (hl : (μ (s + 14) 3).toInt = (cg : Int) - 1) : ∃ μ' ξ', fX10_step_l26 s 100000 (nI 0) μ = some (1, μ') ∧ fX12_tickGoes_l47 100000 (nI 0) ξ = some ξ' ∧ SR s F c μ' ξ' ∧ TF s μ μ' ∧ RF ξ ξ' ∧ (∀ i, i ≠ 0 → i ≠ 5 → i ≠ 6 → i ≠ 7 → μ' s i = μ s i) ∧ ξ' 272 0 = ξ 272 0 + 1 ∧ ∀ i, 1 ≤ i → i < 5 → ξ' 272 i = ξ 272 i := by
  obtain ⟨h1, h2, h3⟩ := h
  obtain ⟨μ1, ξ1, e1, e2, c1, g1, n1, t1, r1, s1, l1⟩ := pGroups_l hs 100000 0 μ ξ h1 nc h2 (fun j hj => ⟨fun w => absurd w (by omega), fun _ => h3 j hj⟩) hl (Nat.zero_le _) (by decide)
  have b5 := nc.1.2.2.1
  have c2 := c1.tick (v := ξ1 272 0 + 1) hs
  have g2 := g1.tick (v := ξ1 272 0 + 1)
  have n0 : μ1 s 0 = ξ1 272 0 := c1.2.1.1
  rw [n0] at e1
  have x9 : ξ1 269 = ξ 269 := r1.1 269 (by decide) (by decide) (by decide)
  rw [z32] at e2
  obtain ⟨ξ2, e3, y1, y2, y3⟩ := mTal_l (s := s) (cg := cg) 100000 0 (gUp ξ1 272 0 (ξ1 272 0 + 1)) c2.1 (by rw [zUp_ne _ (by decide), x9]; exact nc.2.2.2.2.1) b5 g2 (Nat.zero_le _) (by decide)
  have ya : ∀ a, a ≠ 272 → ξ2 a = ξ1 a := fun a ha => by rw [y1 a ha, zUp_ne _ ha]
  have yi : ∀ i, i ≠ 0 → i < 130 ∨ 140 ≤ i → ξ2 272 i = ξ1 272 i := fun i h1 h2 => by rw [y2 i h2, zUp_slot _ h1]
  have m5 : gUp μ1 s 0 (ξ1 272 0 + 1) (s + 5) = μ1 (s + 5) := zUp_ne _ (by omega)
  have m6 : gUp μ1 s 0 (ξ1 272 0 + 1) (s + 6) = μ1 (s + 6) := zUp_ne _ (by omega)
  have m7 : gUp μ1 s 0 (ξ1 272 0 + 1) (s + 7) = μ1 (s + 7) := zUp_ne _ (by omega)
  refine ⟨_, ξ2, e1, by rw [e2, e3], ⟨?_, fun g hg => (g2 g hg).cg hg (fun _ _ => rfl) (y1 269 (by decide)) (fun i hi => y2 i (by omega)), fun g hg => ?_⟩, t1.tr ⟨fun a ha => zUp_ne _ (by omega), fun i _ => by rw [zUp_ne _ (by omega)]⟩, r1.tr ⟨fun a h0 h1 h2 => ya a h1, fun i _ => by rw [ya 267 (by decide)], fun i hi => yi i (by omega) (by omega)⟩, fun i h0 h5 h6 h7 => by rw [zUp_slot _ h0]; exact s1 i h5 h6 h7, ?_, fun i h1 h2 => by rw [yi i (by omega) (by omega)]; exact l1 i h2⟩
  · obtain ⟨hn, ⟨n0, n1, n2, n3, n4, n5⟩, hw, a1, a2, a3⟩ := c2
    refine ⟨hn.fr (fun _ _ _ => rfl) (y1 269 (by decide)), ⟨by rw [y2 0 (by decide)]; exact n0, by rw [y2 1 (by decide)]; exact n1, by rw [y2 2 (by decide)]; exact n2, by rw [y2 3 (by decide)]; exact n3, by rw [y2 4 (by decide)]; exact n4, by rw [y2 9 (by decide)]; exact n5⟩, fun g k m => ?_, a1, by rw [y2 7 (by decide)]; exact a2, fun f => ?_⟩
    · rw [y1 269 (by decide)] at m
      have := m.1
      have := m.2.1
      rw [y1 269 (by decide), y2 2 (by decide), y2 (10 + (6 * g + k)) (by omega)]
      exact hw g k m
    · obtain ⟨f1, f2, f3, f4⟩ := a3 f
      exact ⟨f1.cg rfl rfl (y2 7 (by decide)) (fun i hi => y2 i (by omega)), by rw [y2 5 (by decide)]; exact f2, by rw [y2 6 (by decide)]; exact f3, by rw [y1 267 (by decide)]; exact f4⟩
  · unfold CN
    rw [m6, m7]
    by_cases cg' : g < cg
    · obtain ⟨u1, u2⟩ := (y3 g hg).2 (Nat.zero_le _) cg'
      obtain ⟨v1, v2⟩ := (n1 g hg).1 cg'
      rw [u1, u2, v1, v2, zUp_slot _ (show 130 + g ≠ 0 by omega), zUp_slot _ (show 135 + g ≠ 0 by omega), zUp_ne _ (show (269 : Nat) ≠ 272 by decide), zUp_slot _ (show (1 : Nat) ≠ 0 by decide), zUp_slot _ (show (3 : Nat) ≠ 0 by decide), m5]
      exact ⟨rfl, rfl⟩
    · obtain ⟨u1, u2⟩ := (y3 g hg).1 (Or.inr (by omega))
      obtain ⟨v1, v2⟩ := (n1 g hg).2 (by omega)
      rw [u1, u2, v1, v2, zUp_slot _ (show 130 + g ≠ 0 by omega), zUp_slot _ (show 135 + g ≠ 0 by omega)]
      exact ⟨rfl, rfl⟩
  · rw [y2 0 (by decide), zUp_same, l1 0 (by decide)]
