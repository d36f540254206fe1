/-! a tick goes by -/
theorem mAtI {k : Nat} : (145 : Int32) + ((5 : Int32) * nI k) = nI (145 + 5 * k) := by
  rw [show (5 : Int32) = nI 5 from rfl, pk_mul, show (145 : Int32) = nI 145 from rfl, nI_add]
theorem mHap1 {k n m : Nat} {ξ : gM} (hn : n ≤ 20) (hk : k < n) (h8 : ξ 272 8 = nI n) : fX12_tickGoes_l2 (m + 1) (nI k) ξ = if ξ 272 (145 + 5 * k) = ξ 272 0 then zBd (fX12_happens (nI k) ξ) (fun μ' => fX12_tickGoes_l2 m (nI (k + 1)) μ') else fX12_tickGoes_l2 m (nI (k + 1)) ξ := by
  rw [fX12_tickGoes_l2, h8, if_neg (fun w => by have := (nIle (by omega) (by omega)).mp w; omega), mAtI]
  unfold zCk
  rw [if_pos (gI (by omega) (by decide)), nI_clamp (by omega), zLt_eq, show nI k + (1 : Int32) = nI (k + 1) from nI_1 k]
  rfl
theorem mSkip {n : Nat} {ξ : gM} (hn : n ≤ 20) (h8 : ξ 272 8 = nI n) : ∀ (d m k : Nat), k + d ≤ n → (∀ i, k ≤ i → i < k + d → ¬ ξ 272 (145 + 5 * i) = ξ 272 0) → fX12_tickGoes_l2 (m + d) (nI k) ξ = fX12_tickGoes_l2 m (nI (k + d)) ξ := by
  intro d
  induction d with
  | zero => intro m k _ _; rfl
  | succ d ih =>
    intro m k hd hne
    rw [← Nat.add_assoc, mHap1 hn (by omega) h8, if_neg (hne k (Nat.le_refl _) (by omega)), ih m (k + 1) (by omega) (fun i h1 h2 => hne i (by omega) (by omega)), show k + 1 + d = k + (d + 1) by omega]
theorem mHapE {n m : Nat} {ξ : gM} (h8 : ξ 272 8 = nI n) : fX12_tickGoes_l2 (m + 1) (nI n) ξ = fX12_tickGoes_l47 100000 (0 : Int32) ξ := by
  rw [fX12_tickGoes_l2, h8, if_pos (Int32.le_refl _)]
theorem PLN.sort {s n : Nat} {μ ξ : gM} (h : PLN s n μ ξ) : ∀ d k, k + d < n → atI ξ k ≤ atI ξ (k + d) := by
  intro d
  induction d with
  | zero => intro k _; exact Int.le_refl _
  | succ d ih =>
    intro k hk
    have h1 := ih k (by omega)
    have h2 := h.2.2.2.2.2 (k + d) (by omega)
    rw [← Nat.add_assoc]
    omega
/-- which event is next is no part of it -/
theorem SR.next {s : Nat} {F : Prop} {c v : Int32} {μ ξ : gM} (hs : 34 ≤ s) (h : SR s F c μ ξ) : SR s F c (gUp μ s 8 v) ξ := by
  have wm : ∀ a, a ≠ s → gUp μ s 8 v a = μ a := fun a ha => zUp_ne _ ha
  have ws : ∀ i, i ≠ 8 → gUp μ s 8 v s i = μ s i := fun i hi => zUp_slot _ hi
  obtain ⟨⟨hn, ⟨n0, n1, n2, n3, n4, n5⟩, hw, a1, a2, a3⟩, h2, h3⟩ := h
  refine ⟨⟨hn.fr (fun a h1 h2 => wm a (by omega)) rfl, ⟨by rw [ws 0 (by decide)]; exact n0, by rw [ws 1 (by decide)]; exact n1, by rw [ws 2 (by decide)]; exact n2, by rw [ws 3 (by decide)]; exact n3, by rw [ws 4 (by decide)]; exact n4, by rw [ws 5 (by decide)]; exact n5⟩, fun g k m => ?_, by rw [wm _ (by omega)]; exact a1, a2, fun f => ?_⟩, fun g hg => (h2 g hg).cg hg (fun a ha => wm a (by omega)) rfl (fun i _ => rfl), fun g hg => ?_⟩
  · rw [wm _ (by omega), wm _ (by omega), wm _ (by omega)]
    exact hw g k m
  · obtain ⟨f1, f2, f3, f4⟩ := a3 f
    exact ⟨f1.cg (wm _ (by omega)) (wm _ (by omega)) rfl (fun _ _ => rfl), by rw [ws 6 (by decide)]; exact f2, by rw [ws 7 (by decide)]; exact f3, by rw [wm _ (by omega)]; exact f4⟩
  · have := h3 g hg
    unfold CN at *
    rw [wm _ (by omega), wm _ (by omega)]
    exact this
theorem NC.tf {s cn cl cg ct : Nat} {μ ξ μ' ξ' : gM} (nc : NC μ ξ cn cl cg ct) (hs : 34 ≤ s) (a : TF s μ μ') (r : RF ξ ξ') : NC μ' ξ' cn cl cg ct := by
  unfold NC at *
  rw [r.1 269 (by decide) (by decide) (by decide), a.1 5 (by omega), a.1 4 (by omega)]
  exact nc
theorem pHapB {s n cn cl cg ct : Nat} {F : Prop} {c : Int32} (hs : 34 ≤ s) : ∀ (m1 k m2 : Nat) (μ ξ : gM), SR s F c μ ξ → NC μ ξ cn cl cg ct → PLN s n μ ξ → μ s 8 = nI k → (∀ i, k ≤ i → i < n → tkI ξ ≤ atI ξ i) → k ≤ n → n - k < m1 → n - k < m2 → ∃ nx μ' ξ', fX10_happen_l8 s m1 (nI k) μ = some μ' ∧ fX12_tickGoes_l2 m2 (nI k) ξ = fX12_tickGoes_l47 100000 (0 : Int32) ξ' ∧ SR s F c μ' ξ' ∧ TF s μ μ' ∧ RF ξ ξ' ∧ μ' s 0 = μ s 0 ∧ ξ' 272 0 = ξ 272 0 ∧ (k ≤ nx ∧ nx ≤ n) ∧ μ' s 8 = nI nx ∧ (∀ i, k ≤ i → i < nx → atI ξ i = tkI ξ) ∧ ∀ i, nx ≤ i → i < n → tkI ξ < atI ξ i := by
  intro m1
  induction m1 with
  | zero => intro k m2 μ ξ _ _ _ _ _ _ h1; exact absurd h1 (by omega)
  | succ m1 ih =>
    intro k m2 μ ξ h nc pn h8 hle hkn hm1 hm2
    obtain ⟨p1, p2, p3, p4, p5, p6⟩ := id pn
    have n0 : μ s 0 = ξ 272 0 := h.1.2.1.1
    by_cases ck : k = n
    · subst ck
      obtain ⟨m2, rfl⟩ : ∃ m, m2 = m + 1 := ⟨m2 - 1, by omega⟩
      rw [fX10_happen_l8, p2, if_pos (Int32.le_refl _), mHapE p3]
      exact ⟨k, μ, ξ, rfl, rfl, h, TF.rf _ _, RF.rf _, rfl, rfl, ⟨Nat.le_refl _, Nat.le_refl _⟩, h8, fun i h1 h2 => absurd h2 (by omega), fun i h1 h2 => absurd h2 (by omega)⟩
    · have kn : k < n := by omega
      have r0 : μ (s + 2) (5 * k) = ξ 272 (145 + 5 * k) := p4 (5 * k) (by omega)
      by_cases ca : ξ 272 (145 + 5 * k) = ξ 272 0
      · obtain ⟨m2, rfl⟩ : ∃ m, m2 = m + 1 := ⟨m2 - 1, by omega⟩
        rw [cHap p1 kn p2 (by rw [r0, n0]; exact ca), mHap1 p1 kn p3, if_pos ca]
        have hN := h.next (v := nI (k + 1)) hs
        have t0 : TF s μ (gUp μ s 8 (nI (k + 1))) := ⟨fun a ha => zUp_ne _ (by omega), fun i _ => by rw [zUp_ne _ (by omega)]⟩
        have nc0 := nc.tf hs t0 (RF.rf ξ)
        obtain ⟨μ1, ξ1, e1, e2, h1, f1⟩ := pEv hs hN nc0 p1 kn (p5 k kn) (fun j hj => by rw [zUp_ne _ (by omega)]; exact p4 (5 * k + j) (by omega))
        rw [e1, e2, zBd_some, zBd_some]
        obtain ⟨ft, fr, f0, f8, fx⟩ := f1
        have tt := t0.tr ft
        have ek : ∀ i, i < 20 → atI ξ1 i = atI ξ i := fun i hi => atI.mv fr hi
        have et : tkI ξ1 = tkI ξ := by unfold tkI; rw [fx]
        obtain ⟨nx, μ', ξ', x1, x2, x3, x4, x5, x6, x7, x8, x9, x10, x11⟩ := ih (k + 1) m2 μ1 ξ1 h1 (nc.tf hs tt fr) (pn.mv tt fr) (by rw [f8, zUp_same]) (fun i h1 h2 => by rw [et, ek i (by omega)]; exact hle i (by omega) h2) (by omega) (by omega) (by omega)
        refine ⟨nx, μ', ξ', x1, x2, x3, tt.tr x4, fr.tr x5, by rw [x6, f0, zUp_slot _ (by decide)], x7.trans fx, ⟨by omega, x8.2⟩, x9, fun i h1 h2 => ?_, fun i h1 h2 => by have := x11 i h1 h2; rw [et, ek i (by omega)] at this; exact this⟩
        by_cases ei : i = k
        · subst ei
          unfold atI tkI
          rw [ca]
        · have := x10 i (by omega) h2
          rw [et, ek i (by omega)] at this
          exact this
      · have lt : tkI ξ < atI ξ k := by
          have := hle k (Nat.le_refl _) kn
          have ne : atI ξ k ≠ tkI ξ := fun w => ca (Int32.toInt_inj.mp w)
          omega
        have all : ∀ i, k ≤ i → i < n → tkI ξ < atI ξ i := fun i h1 h2 => by
          have := pn.sort (i - k) k (by omega)
          rw [show k + (i - k) = i by omega] at this
          omega
        have ea : fX5_at (s + 1) (nI k) μ = some (μ (s + 2) (5 * k)) := by
          unfold fX5_at zCk
          rw [show nI k * (5 : Int32) = nI (5 * k) by rw [show (5 : Int32) = nI 5 from rfl, pk_mul, Nat.mul_comm], if_pos (gI (by omega) (by decide)), nI_clamp (by omega)]
        obtain ⟨m3, rfl⟩ : ∃ m, m2 = (m + 1) + (n - k) := ⟨m2 - 1 - (n - k), by omega⟩
        rw [fX10_happen_l8, p2, if_neg (fun w => by have := (nIle (by omega) (by omega)).mp w; omega), ea, zBd_some, if_neg (by rw [r0, n0]; exact ca), mSkip p1 p3 (n - k) (m3 + 1) k (by omega) (fun i h1 h2 w => by have := all i h1 (by omega); unfold atI tkI at this; rw [w] at this; omega), show k + (n - k) = n by omega, mHapE p3]
        exact ⟨k, μ, ξ, rfl, rfl, h, TF.rf _ _, RF.rf _, rfl, rfl, ⟨Nat.le_refl _, hkn⟩, h8, fun i h1 h2 => absurd h2 (by omega), all⟩
/-- all groups are run -/
def RNG (s cg : Nat) (μ : gM) : Prop := μ (s + 14) 2 = nI 0 ∧ (μ (s + 14) 3).toInt = (cg : Int) - 1
/-- the class's tick, one by one -/
def cTick (s : Nat) (μ : gM) : Option (Int32 × gM) := zBd (fX10_happen s μ) (fun μ2 => fX10_step_l26 s 100000 (μ2 (s + 14) 2) μ2)
theorem pTick {s n nx cn cl cg ct : Nat} {F : Prop} {c : Int32} {μ ξ : gM} (hs : 34 ≤ s) (h : SR s F c μ ξ) (nc : NC μ ξ cn cl cg ct) (pn : PLN s n μ ξ) (px : NX s n nx (tkI ξ) μ ξ) (rg : RNG s cg μ) (tb : 0 ≤ tkI ξ ∧ tkI ξ ≤ 100000) : ∃ nx' μ' ξ', cTick s μ = some (1, μ') ∧ fX12_tickGoes ξ = some ξ' ∧ SR s F c μ' ξ' ∧ TF s μ μ' ∧ RF ξ ξ' ∧ tkI ξ' = tkI ξ + 1 ∧ NX s n nx' (tkI ξ') μ' ξ' := by
  obtain ⟨p1, p2, p3, p4, p5, p6⟩ := id pn
  obtain ⟨q1, q2, q3, q4⟩ := px
  obtain ⟨nx', μ1, ξ1, e1, e2, h1, t1, r1, f0, fx, b1, f8, d1, d2⟩ := pHapB hs 100000 nx (100000 - nx) μ ξ h nc pn q2 q4 q1 (by omega) (by omega)
  obtain ⟨μ2, ξ2, e3, e4, h2, t2, r2, s2, x0, xi⟩ := pTickG hs h1 (nc.tf hs t1 r1) (by rw [t1.2 3 (by decide)]; exact rg.2)
  have es : fX12_tickGoes ξ = some ξ2 := by
    unfold fX12_tickGoes
    rw [z32, show (100000 : Nat) = (100000 - nx) + nx by omega, mSkip p1 p3 nx (100000 - nx) 0 (by omega) (fun i _ h2 w => by have := q3 i (by omega); unfold atI tkI at this; rw [w] at this; omega), Nat.zero_add, e2, z32, e4]
  have et : tkI ξ2 = tkI ξ + 1 := by
    unfold tkI at *
    rw [x0, fx]
    exact iA rfl (iL (1) (1) rfl) (by omega) (by omega)
  have ek : ∀ i, i < 20 → atI ξ2 i = atI ξ i := fun i hi => atI.mv (r1.tr r2) hi
  refine ⟨nx', μ2, ξ2, ?_, es, h2, t1.tr t2, r1.tr r2, et, b1.2, by rw [s2 8 (by decide) (by decide) (by decide) (by decide)]; exact f8, fun k hk => ?_, fun k h1 h2 => ?_⟩
  · unfold cTick fX10_happen
    rw [zLt_eq, q2, e1, zBd_some, t1.2 2 (by decide), rg.1]
    exact e3
  · rw [et, ek k (by omega)]
    by_cases c : k < nx
    · have := q3 k c; omega
    · have := d1 k (by omega) hk; omega
  · rw [et, ek k (by omega)]
    have := d2 k h1 h2
    omega
