/-! moves of the calls on paper -/
theorem nU0 {B i : Nat} {v x w : Int32} {ξ ζ : gM} (hi : i ≠ 22) (e : some (x, gUp ξ 267 i w) = some (v, ζ)) : nDl B ξ ζ := by
  obtain ⟨rfl, rfl⟩ := Prod.mk.inj (Option.some.inj e)
  exact nDl.rf (zUp_slot _ (by omega))
theorem nDl.u0 {B i : Nat} {w : Int32} {ξ ζ : gM} (hi : i ≠ 22) (h : nDl B (gUp ξ 267 i w) ζ) : nDl B ξ ζ := by
  obtain ⟨d, h1, h2⟩ := h
  exact ⟨d, h1, by rw [h2, zUp_slot _ (by omega)]⟩
theorem nDl.fp {B : Nat} {v x : Int32} {ξ μ ζ : gM} (h : nDl B ξ μ) (e : fX12_fromPaper v μ = some (x, ζ)) : nDl B ξ ζ := by
  obtain ⟨-, f, -⟩ := nFromP e
  obtain ⟨d, h1, h2⟩ := h
  exact ⟨d, h1, by rw [f 267 (by decide)]; exact h2⟩
theorem nDl.tp {B : Nat} {ξ μ ζ : gM} (e : fX12_toPaper ξ = some μ) (h : nDl B μ ζ) : nDl B ξ ζ := by
  obtain ⟨f, -⟩ := nToP e
  obtain ⟨d, h1, h2⟩ := h
  exact ⟨d, h1, by rw [h2, f 267 (by decide)]⟩
theorem nLS.tp {n cn cl cg ct c : Nat} {ξ μ : gM} (h : nLS n cn cl cg ct c ξ) (e : fX12_toPaper ξ = some μ) : nLS n cn cl cg ct c μ := by
  obtain ⟨f, -⟩ := nToP e
  exact h.fr (f 269 (by decide)) (fun i _ => by rw [f 272 (by decide)])
theorem nDl.st {B : Nat} {v x : Int32} {ξ μ ζ : gM} (h : nDl B ξ μ) (e : (some (x, μ) : Option (Int32 × gM)) = some (v, ζ)) : nDl B ξ ζ := by
  obtain ⟨rfl, rfl⟩ := Prod.mk.inj (Option.some.inj e)
  exact h
theorem nd_ahead (L : lq_all) {n cn cl cg ct c : Nat} {a1 a2 v : Int32} {ξ ζ : gM} (h : nLS n cn cl cg ct c ξ) (e : fX12_ahead a1 a2 ξ = some (v, ζ)) : nDl 700000 ξ ζ := by
  unfold fX12_ahead at e
  rw [zLt_eq] at e
  obtain ⟨x2, -, e2⟩ := bdI e
  split at e2
  · exact nU0 (by decide) e2
  · obtain ⟨x3, i3, e3⟩ := bdI e2
    by_cases c3 : x3 = 0
    · rw [if_pos c3] at e3; exact nU0 (by decide) e3
    · rw [if_neg c3] at e3
      obtain ⟨x4, -, e4⟩ := bdI e3
      split at e4
      · exact nU0 (by decide) e4
      · obtain ⟨μ5, p5, e5⟩ := bdI e4
        obtain ⟨μ6, p6, e6⟩ := bdI e5
        obtain ⟨x7, -, e7⟩ := bdI e6
        obtain ⟨x8, μ9, p9, e9⟩ := bpI e7
        have b := nIsI (y := 0) (z := 500) rfl rfl i3 c3
        exact (((((h.u0.tp p5).run L (N := 0) b p6).fp p9).tp p5).u0 (by decide)).le (by decide) |>.st e9
theorem nd_flaps (L : lq_all) {n cn cl cg ct c : Nat} {a1 a2 v : Int32} {ξ ζ : gM} (h : nLS n cn cl cg ct c ξ) (e : fX12_flaps a1 a2 ξ = some (v, ζ)) : nDl 700000 ξ ζ := by
  unfold fX12_flaps at e
  rw [zLt_eq] at e
  obtain ⟨x2, -, e2⟩ := bdI e
  split at e2
  · exact nU0 (by decide) e2
  · obtain ⟨x3, i3, e3⟩ := bdI e2
    by_cases c3 : x3 = 0
    · rw [if_pos c3] at e3; exact nU0 (by decide) e3
    · rw [if_neg c3] at e3
      obtain ⟨x4, -, e4⟩ := bdI e3
      split at e4
      · exact nU0 (by decide) e4
      · obtain ⟨μ5, p5, e5⟩ := bdI e4
        have e5 := ckI e5
        rw [zLt_eq] at e5
        obtain ⟨μ6, p6, e6⟩ := bdI e5
        have e6 := ckI e6
        obtain ⟨x8, μ9, p9, e9⟩ := bpI e6
        have b := nIsI (y := 1) (z := 500) rfl rfl i3 c3
        exact (((((h.u0.tp p5).run L (N := 0) ⟨by omega, b.2⟩ p6).fp p9).tp p5).u0 (by decide)).le (by decide) |>.st e9
theorem nd_letters (L : lq_all) {n cn cl cg ct c : Nat} {a1 v : Int32} {ξ ζ : gM} (h : nLS n cn cl cg ct c ξ) (e : fX12_letters a1 ξ = some (v, ζ)) : nDl 700000 ξ ζ := by
  unfold fX12_letters at e
  rw [zLt_eq] at e
  split at e
  · exact nU0 (by decide) e
  · obtain ⟨x3, i3, e3⟩ := bdI e
    by_cases c3 : x3 = 0
    · rw [if_pos c3] at e3; exact nU0 (by decide) e3
    · rw [if_neg c3] at e3
      obtain ⟨x4, -, e4⟩ := bdI e3
      split at e4
      · exact nU0 (by decide) e4
      · obtain ⟨μ5, p5, e5⟩ := bdI e4
        rw [zLt_eq] at e5
        obtain ⟨μ6, p6, e6⟩ := bdI e5
        obtain ⟨x8, μ9, p9, e9⟩ := bpI e6
        have b := nIsI (y := 1) (z := 500) rfl rfl i3 c3
        exact (((((h.u0.tp p5).run L (N := 0) ⟨by omega, b.2⟩ p6).fp p9).tp p5).u0 (by decide)).le (by decide) |>.st e9
theorem nd_under (L : lq_all) {n cn cl cg ct c : Nat} {a1 a2 a3 v : Int32} {ξ ζ : gM} (h : nLS n cn cl cg ct c ξ) (e : fX12_under a1 a2 a3 ξ = some (v, ζ)) : nDl 700000 ξ ζ := by
  unfold fX12_under at e
  rw [zLt_eq] at e
  obtain ⟨x2, -, e2⟩ := bdI e
  split at e2
  · exact nU0 (by decide) e2
  · obtain ⟨x3, -, e3⟩ := bdI e2
    split at e3
    · exact nU0 (by decide) e3
    · obtain ⟨x4, -, e4⟩ := bdI e3
      split at e4
      · exact nU0 (by decide) e4
      · obtain ⟨x5, -, e5⟩ := bdI e4
        split at e5
        · exact nU0 (by decide) e5
        · obtain ⟨μ6, p6, e6⟩ := bdI e5
          rw [zLt_eq] at e6
          obtain ⟨μ8, p8, e8⟩ := bdI e6
          obtain ⟨x9, -, e9⟩ := bdI e8
          obtain ⟨x10, μ11, p11, e11⟩ := bpI e9
          have h6 := h.u0 (i := 0) (v := 0) |>.tp p6
          have hc : nLS n cn cl cg ct c (gUp μ6 272 2 a3) := ⟨h6.1.cuts, by unfold tkI; rw [zUp_slot _ (by decide)]; exact h6.2⟩
          have d : nDl 31155 μ6 μ8 := by
            obtain ⟨d, d1, d2⟩ := hc.run L (N := 0) (a := 300) (by decide) p8
            exact ⟨d, d1, by rw [d2, zUp_ne _ (by decide)]⟩
          exact (((d.fp p11).tp p6).u0 (by decide)).le (by decide) |>.st e11
theorem nd_stands_l (L : lq_all) {n cn cl cg ct c N : Nat} {y1 y2 : Int32} {ξ0 : gM} (tb : 0 ≤ tkI ξ0 ∧ tkI ξ0 ≤ 9999) (hN : N ≤ 500) : ∀ (m y : Nat) (y4 v : Int32) (ξ ζ : gM), y ≤ N → nAcc n cn cl cg ct c ξ0 y ξ → fX12_stands_l46 m y1 y2 (nI N) y4 (nI y) ξ = some (v, ζ) → nDl 31155 ξ0 ζ := by
  intro m
  induction m with
  | zero => intro _ _ _ _ _ _ _ e; exact nomatch e
  | succ m ih =>
    intro y y4 v ξ ζ hy h e
    rw [fX12_stands_l46] at e
    by_cases w : nI N ≤ nI y
    · rw [if_pos w] at e
      obtain ⟨x, μ, p, e2⟩ := bpI e
      exact ((h.dl.fp p).le (by omega)).st e2
    · rw [if_neg w] at e
      have ylt : y < N := by
        rcases Nat.lt_or_ge y N with z | z
        · exact z
        · exact absurd ((nIle (by omega) (by omega)).mpr z) w
      obtain ⟨μ8, p8, e8⟩ := bdI e
      obtain ⟨x9, -, e9⟩ := bdI e8
      obtain ⟨x10, -, e10⟩ := bdI e9
      rw [zLt_eq, zLt_eq, nI_1 y] at e10
      exact ih (y + 1) _ v μ8 ζ (by omega) (h.tick L tb (by omega) p8) e10
theorem nd_stands (L : lq_all) {n cn cl cg ct c : Nat} {a1 a2 a3 v : Int32} {ξ ζ : gM} (h : nLS n cn cl cg ct c ξ) (e : fX12_stands a1 a2 a3 ξ = some (v, ζ)) : nDl 700000 ξ ζ := by
  unfold fX12_stands at e
  rw [zLt_eq] at e
  obtain ⟨x2, -, e2⟩ := bdI e
  split at e2
  · exact nU0 (by decide) e2
  · obtain ⟨x3, i3, e3⟩ := bdI e2
    by_cases c3 : x3 = 0
    · rw [if_pos c3] at e3; exact nU0 (by decide) e3
    · rw [if_neg c3] at e3
      obtain ⟨x4, -, e4⟩ := bdI e3
      split at e4
      · exact nU0 (by decide) e4
      · obtain ⟨μ5, p5, e5⟩ := bdI e4
        have b := nIsI (y := 1) (z := 500) rfl rfl i3 c3
        obtain ⟨N, n1, -, rfl⟩ := spanG (M := 500) (by decide) (by decide) b
        have h5 := h.u0 (i := 0) (v := 0) |>.tp p5
        exact (((nd_stands_l L h5.2 n1 100000 0 _ v μ5 ζ (Nat.zero_le _) (nAcc.rf h5.1) e5).tp p5).u0 (by decide)).le (by decide)
theorem nd_settles_l (L : lq_all) {n cn cl cg ct c : Nat} {ξ0 : gM} (tb : 0 ≤ tkI ξ0 ∧ tkI ξ0 ≤ 9999) : ∀ (m a b : Nat) (v : Int32) (ξ ζ : gM), a ≤ 500 → b ≤ a + 100 → a ≤ b → nAcc n cn cl cg ct c ξ0 b ξ → fX12_settles_l32 m (nI a) (nI b) ξ = some (v, ζ) → nDl 37155 ξ0 ζ := by
  intro m
  induction m with
  | zero => intro _ _ _ _ _ _ _ _ _ e; exact nomatch e
  | succ m ih =>
    intro a b v ξ ζ ha hb hab h e
    rw [fX12_settles_l32] at e
    have s100 : nI a + (100 : Int32) = nI (a + 100) := by rw [show (100 : Int32) = nI 100 from rfl, nI_add]
    by_cases w : nI a + (100 : Int32) ≤ nI b
    · rw [if_pos w] at e
      obtain ⟨x, μ, p, e2⟩ := bpI e
      exact ((h.dl.fp p).le (by omega)).st e2
    · rw [if_neg w, zLt_eq] at e
      rw [s100] at w
      have blt : b < a + 100 := by
        rcases Nat.lt_or_ge b (a + 100) with z | z
        · exact z
        · exact absurd ((nIle (by omega) (by omega)).mpr z) w
      obtain ⟨μ7, p7, e7⟩ := bdI e
      rw [zLt_eq, nI_1 b] at e7
      have h7 := h.tick L tb (by omega) p7
      have n62 : ∀ a', a ≤ a' → a' ≤ b + 1 → fX12_settles_n62 (fX12_settles_l32 m) (nI a') (nI (b + 1)) μ7 = some (v, ζ) → nDl 37155 ξ0 ζ := fun a' h1 h2 g => by
        unfold fX12_settles_n62 at g
        by_cases w5 : nI a' ≤ 500
        · rw [if_pos w5] at g
          have a5 : a' ≤ 500 := (nIle (b := 500) (by omega) (by omega)).mp w5
          exact ih a' (b + 1) v μ7 ζ a5 (by omega) h2 h7 g
        · rw [if_neg w5] at g
          obtain ⟨x, μ, p, e2⟩ := bpI g
          exact ((h7.dl.fp p).le (by omega)).st e2
      split at e7
      · exact n62 a (Nat.le_refl _) (by omega) e7
      · exact n62 (b + 1) (by omega) (Nat.le_refl _) e7
theorem nd_settles (L : lq_all) {n cn cl cg ct c : Nat} {v : Int32} {ξ ζ : gM} (h : nLS n cn cl cg ct c ξ) (e : fX12_settles ξ = some (v, ζ)) : nDl 700000 ξ ζ := by
  unfold fX12_settles at e
  rw [zLt_eq] at e
  split at e
  · exact nU0 (by decide) e
  · obtain ⟨x2, -, e2⟩ := bdI e
    split at e2
    · exact nU0 (by decide) e2
    · obtain ⟨μ3, p3, e3⟩ := bdI e2
      have h3 := h.u0 (i := 0) (v := 0) |>.tp p3
      exact (((nd_settles_l L h3.2 100000 0 0 v μ3 ζ (by decide) (by decide) (by decide) (nAcc.rf h3.1) e3).tp p3).u0 (by decide)).le (by decide)
theorem nd_failsIn_l (L : lq_all) {n cn cl cg ct c : Nat} {y1 y2 : Int32} {ξ0 : gM} (tb : 0 ≤ tkI ξ0 ∧ tkI ξ0 ≤ 9999) : ∀ (m y : Nat) (v : Int32) (ξ ζ : gM), y ≤ 500 → nAcc n cn cl cg ct c ξ0 y ξ → fX12_failsIn_l23 m y1 y2 (nI y) ξ = some (v, ζ) → nDl 31155 ξ0 ζ := by
  have n83 : ∀ (y : Nat) (y3 v : Int32) (ξ ζ : gM), y ≤ 500 → nAcc n cn cl cg ct c ξ0 y ξ → fX12_failsIn_n83 y3 ξ = some (v, ζ) → nDl 31155 ξ0 ζ := fun y y3 v ξ ζ hy h e => by
    unfold fX12_failsIn_n83 fX12_failsIn_n97 at e
    split at e
    · obtain ⟨x, μ, p, e2⟩ := bpI e
      exact ((h.dl.fp p).le (by omega)).st e2
    · obtain ⟨x, μ, p, e2⟩ := bpI e
      exact ((h.dl.fp p).le (by omega)).st e2
  intro m
  induction m with
  | zero => intro _ _ _ _ _ _ e; exact nomatch e
  | succ m ih =>
    intro y v ξ ζ hy h e
    rw [fX12_failsIn_l23] at e
    split at e
    · by_cases w : (500 : Int32) ≤ nI y
      · rw [if_pos w] at e
        exact n83 y _ v ξ ζ hy h e
      · rw [if_neg w] at e
        have ylt : y < 500 := by
          rcases Nat.lt_or_ge y 500 with z | z
          · exact z
          · exact absurd ((nIle (a := 500) (by omega) (by omega)).mpr z) w
        obtain ⟨x9, -, e9⟩ := bdI e
        split at e9
        · exact n83 y _ v ξ ζ hy h e9
        · obtain ⟨μ10, p10, e10⟩ := bdI e9
          rw [zLt_eq, nI_1 y] at e10
          obtain ⟨x12, -, e12⟩ := bdI e10
          obtain ⟨x13, -, e13⟩ := bdI e12
          obtain ⟨x14, -, e14⟩ := bdI e13
          rw [zLt_eq] at e14
          exact ih (y + 1) v _ ζ (by omega) ((h.tick L tb (by omega) p10).o (zUp_ne _ (by decide)) (fun i _ => by rw [zUp_ne _ (by decide)]) (zUp_slot _ (by decide))) e14
    · exact n83 y _ v ξ ζ hy h e
theorem nd_failsIn (L : lq_all) {n cn cl cg ct c k : Nat} {a1 v : Int32} {ξ ζ : gM} (h : nLS n cn cl cg ct c ξ) (hk : k < cn) (e : fX12_failsIn a1 (nI k) ξ = some (v, ζ)) : nDl 31155 ξ ζ := by
  unfold fX12_failsIn at e
  obtain ⟨μ1, p1, e1⟩ := bdI e
  obtain ⟨x2, μ3, p3, e3⟩ := bpI e1
  obtain ⟨x4, -, e4⟩ := bdI e3
  rw [zLt_eq] at e4
  have h1 := h.tp p1
  obtain ⟨r3, t3⟩ := h1.1.down hk p3
  have m3 : μ3 267 22 = μ1 267 22 := uX12_goesDown (m := μ1) rfl _ p3
  have h5 : nLR n cn cl cg ct c (gUp μ3 267 26 x4) := r3.fr (zUp_ne _ (by decide)) (fun i _ => by rw [zUp_ne _ (by decide)])
  have tb : 0 ≤ tkI (gUp μ3 267 26 x4) ∧ tkI (gUp μ3 267 26 x4) ≤ 9999 := by
    have : tkI (gUp μ3 267 26 x4) = tkI μ3 := by unfold tkI; rw [zUp_ne _ (by decide)]
    rw [this, t3]; exact h1.2
  have d := (nd_failsIn_l L tb 100000 0 v _ ζ (by decide) (nAcc.rf h5) e4).u0 (by decide)
  exact ((nDl.rf (B := 0) m3).tr d |>.le (by decide)).tp p1
theorem nLR.gate {n cn cl cg ct c : Nat} {a v : Int32} {ξ : gM} (h : nLR n cn cl cg ct c ξ) (e : fX12_isGate a ξ = some v) (nz : v ≠ 0) : ∃ k, k < cn ∧ a = nI k := by
  obtain ⟨⟨μ, r⟩, -⟩ := h
  rcases gateG (a1 := a) r.2.1 with ⟨k, hk, ek, -⟩ | ⟨-, g⟩
  · exact ⟨k, hk, ek⟩
  · rw [e] at g
    exact absurd (Option.some.inj g) nz
theorem nLR.memb {n cn cl cg ct c : Nat} {a b v : Int32} {ξ : gM} (h : nLR n cn cl cg ct c ξ) (e : fX12_isMember a b ξ = some v) (nz : v ≠ 0) : ∃ g k, mem (ξ 269) g k ∧ a = nI g ∧ b = nI k := by
  obtain ⟨⟨μ, r⟩, -⟩ := h
  rcases memG (a1 := a) (a2 := b) r.1.1.1 r.2.1 with ⟨g, k, m, e1, e2, -⟩ | ⟨-, g⟩
  · exact ⟨g, k, m, e1, e2⟩
  · rw [e] at g
    exact absurd (Option.some.inj g) nz
theorem nd_fails (L : lq_all) {n cn cl cg ct c : Nat} {a1 a2 a3 v : Int32} {ξ ζ : gM} (h : nLS n cn cl cg ct c ξ) (e : fX12_fails a1 a2 a3 ξ = some (v, ζ)) : nDl 700000 ξ ζ := by
  unfold fX12_fails at e
  rw [zLt_eq] at e
  obtain ⟨x2, -, e2⟩ := bdI e
  split at e2
  · exact nU0 (by decide) e2
  · obtain ⟨x3, i3, e3⟩ := bdI e2
    by_cases c3 : x3 = 0
    · rw [if_pos c3] at e3; exact nU0 (by decide) e3
    · rw [if_neg c3] at e3
      obtain ⟨x4, -, e4⟩ := bdI e3
      split at e4
      · exact nU0 (by decide) e4
      · obtain ⟨x5, -, e5⟩ := bdI e4
        split at e5
        · exact nU0 (by decide) e5
        · obtain ⟨x6, μ7, p7, e7⟩ := bpI e5
          obtain ⟨k, hk, rfl⟩ := (h.u0 (i := 0) (v := 0)).1.gate i3 c3
          have d := ((nd_failsIn L h.u0 hk p7).u0 (by decide)).le (B := 700000) (by decide)
          split at e7
          · exact d.st e7
          · exact d.st e7
theorem nd_worst_l (L : lq_all) {n cn cl cg ct c : Nat} {y1 y2 : Int32} : ∀ (m k : Nat) (y3 y4 v : Int32) (ξ ζ : gM), k ≤ cn → nLS n cn cl cg ct c ξ → fX12_worst_l33 m y1 y2 y3 y4 (nI k) ξ = some (v, ζ) → nDl (31155 * (cn - k)) ξ ζ := by
  intro m
  induction m with
  | zero => intro _ _ _ _ _ _ _ _ e; exact nomatch e
  | succ m ih =>
    intro k y3 y4 v ξ ζ hk h e
    obtain ⟨n20, -, -, ⟨c6, c5⟩, g0, -⟩ := h.1.n20
    rw [fX12_worst_l33] at e
    unfold fX12_gates at e
    rw [zBd_some, g0] at e
    by_cases w : nI cn ≤ nI k
    · rw [if_pos w] at e
      split at e
      · exact (nDl.rf rfl).st e
      · exact (nDl.rf rfl).st e
    · rw [if_neg w] at e
      have klt : k < cn := by
        rcases Nat.lt_or_ge k cn with z | z
        · exact z
        · exact absurd ((nIle (by omega) (by omega)).mpr z) w
      have nx : ∀ (y3' y4' : Int32) (χ : gM), nLS n cn cl cg ct c χ → nDl 31155 ξ χ → fX12_worst_l33 m y1 y2 y3' y4' (nI (k + 1)) χ = some (v, ζ) → nDl (31155 * (cn - k)) ξ ζ := fun y3' y4' χ hχ d g => by
        exact (d.tr (ih (k + 1) _ _ v χ ζ (by omega) hχ g)).le (by omega)
      obtain ⟨x6, -, e6⟩ := bdI e
      have e6 := ckI e6
      split at e6
      · rw [zLt_eq, nI_1 k] at e6
        exact nx _ _ ξ h (nDl.rf rfl) e6
      · obtain ⟨x8, μ9, p9, e9⟩ := bpI e6
        have d := nd_failsIn L h klt p9
        have rb := rX12_failsIn (m := ξ) ⟨fun _ _ => rfl, fun _ _ => rfl, rfl, rfl⟩ _ p9
        have o9 := oX12_failsIn (m := ξ) ⟨rfl, rfl, rfl⟩ _ p9
        have h9 : nLS n cn cl cg ct c μ9 := h.fr o9.1 rb.1
        split at e9
        · have d2 : nDl (31155 * (cn - k)) ξ μ9 := d.le (by omega)
          split at e9
          · exact d2.st e9
          · exact d2.st e9
        · split at e9
          · rw [zLt_eq, nI_1 k] at e9
            exact nx _ _ μ9 h9 d e9
          · rw [zLt_eq, nI_1 k] at e9
            exact nx _ _ μ9 h9 d e9
theorem nd_worst (L : lq_all) {n cn cl cg ct c : Nat} {a1 a2 v : Int32} {ξ ζ : gM} (h : nLS n cn cl cg ct c ξ) (e : fX12_worst a1 a2 ξ = some (v, ζ)) : nDl 700000 ξ ζ := by
  unfold fX12_worst at e
  rw [zLt_eq] at e
  obtain ⟨x2, -, e2⟩ := bdI e
  split at e2
  · exact nU0 (by decide) e2
  · obtain ⟨x3, -, e3⟩ := bdI e2
    split at e3
    · exact nU0 (by decide) e3
    · have c6 := h.1.n20.2.2.2.1.1
      exact ((nd_worst_l L 100000 0 _ _ v _ ζ (Nat.zero_le _) h.u0 e3).u0 (by decide)).le (by omega)
theorem nd_needs_l (L : lq_all) {n cn cl cg ct c : Nat} {y1 y2 y3 : Int32} {ζ0 : gM} (h0 : nLS n cn cl cg ct c ζ0) : ∀ (m l : Nat) (y4 v : Int32) (ξ ζ : gM), l ≤ 8 → ONP ζ0 ξ → fX12_needs_l57 m y1 y2 y3 y4 (nI l) ξ = some (v, ζ) → nDl (31155 * (8 - l)) ξ ζ := by
  obtain ⟨cl', ecl, hcl⟩ : ∃ cl', ζ0 269 1 = nI cl' ∧ cl' ≤ 8 := by
    obtain ⟨⟨μ, r⟩, -⟩ := h0.1
    exact ⟨cl, r.2.1.2.2.2.1, r.2.1.1.2.1⟩
  intro m
  induction m with
  | zero => intro _ _ _ _ _ _ _ e; exact nomatch e
  | succ m ih =>
    intro l y4 v ξ ζ hl on e
    rw [fX12_needs_l57, on.1, ecl] at e
    by_cases w : nI cl' ≤ nI l
    · rw [if_pos w] at e
      obtain ⟨x, μ, p, e2⟩ := bpI e
      exact ((nDl.rf (B := 31155 * (8 - l)) (ξ := ξ) rfl).fp p).st e2
    · rw [if_neg w] at e
      have llt : l < cl' := by
        rcases Nat.lt_or_ge l cl' with z | z
        · exact z
        · exact absurd ((nIle (by omega) (by omega)).mpr z) w
      obtain ⟨μ10, p10, e10⟩ := bdI e
      rw [zLt_eq] at e10
      obtain ⟨μ12, p12, e12⟩ := bdI e10
      obtain ⟨x13, -, e13⟩ := bdI e12
      obtain ⟨f1, f2⟩ := nTakP p10
      have h10 : nLS n cn cl cg ct c μ10 := h0.fr ((f1 269 (by decide)).trans on.1) (fun i hi => (f2 i hi).trans (on.2 i hi))
      have h11 : nLS n cn cl cg ct c (gUp μ10 272 2 (μ10 272 2 ||| ((1 : Int32) <<< (nI l &&& 31)))) := ⟨h10.1.cuts, by unfold tkI; rw [zUp_slot _ (by decide)]; exact h10.2⟩
      have rf12 : RF (gUp μ10 272 2 (μ10 272 2 ||| ((1 : Int32) <<< (nI l &&& 31)))) μ12 := by
        have p12' : mTk 300 _ = some μ12 := (nGoes (N := 300) (by decide)).symm.trans p12
        obtain ⟨⟨μg, r⟩, h4, c9⟩ := h11.1
        obtain ⟨_, _, _, -, rf, -⟩ := nRun0 L (by decide) r h11.2.1 (by have := h11.2.2; omega) h4 c9 p12'
        exact rf
      have d12 : nDl 31155 ξ μ12 := by
        obtain ⟨d, d1, d2⟩ := h11.run L (N := 0) (a := 300) (by decide) p12
        exact ⟨d, d1, by rw [d2, zUp_ne _ (by decide), f1 267 (by decide)]⟩
      have on12 : ONP ζ0 μ12 := ((on.take f1).up (by decide) (by decide)).rf' rf12
      have go : ∀ (z z1 : Int32), fX12_needs_n111 (fX12_needs_l57 m) y1 y2 y3 (nI l) z z1 μ12 = some (v, ζ) → nDl (31155 * (8 - l)) ξ ζ := fun z z1 g => by
        unfold fX12_needs_n111 at g
        obtain ⟨x14, -, g2⟩ := bdI g
        rw [zLt_eq, zLt_eq, nI_1 l] at g2
        exact (d12.tr (ih (l + 1) _ v μ12 ζ (by omega) on12 g2)).le (by omega)
      split at e13
      · exact go _ _ e13
      · exact go _ _ e13
theorem nd_needs (L : lq_all) {n cn cl cg ct c : Nat} {a1 a2 v : Int32} {ξ ζ : gM} (h : nLS n cn cl cg ct c ξ) (e : fX12_needs a1 a2 ξ = some (v, ζ)) : nDl 700000 ξ ζ := by
  unfold fX12_needs at e
  rw [zLt_eq] at e
  obtain ⟨x2, -, e2⟩ := bdI e
  split at e2
  · exact nU0 (by decide) e2
  · obtain ⟨x3, -, e3⟩ := bdI e2
    split at e3
    · exact nU0 (by decide) e3
    · obtain ⟨x4, -, e4⟩ := bdI e3
      split at e4
      · exact nU0 (by decide) e4
      · obtain ⟨μ5, p5, e5⟩ := bdI e4
        obtain ⟨μ6, p6, e6⟩ := bdI e5
        obtain ⟨x7, -, e7⟩ := bdI e6
        have h1 := h.u0 (i := 0) (v := 0)
        have h5 := h1.tp p5
        obtain ⟨q1, q2⟩ := nToP p5
        have rf6 : RF μ5 μ6 := by
          have p6' : mTk 300 μ5 = some μ6 := (nGoes (N := 300) (by decide)).symm.trans p6
          obtain ⟨⟨μg, r⟩, h4, c9⟩ := h5.1
          obtain ⟨_, _, _, -, rf, -⟩ := nRun0 L (by decide) r h5.2.1 (by have := h5.2.2; omega) h4 c9 p6'
          exact rf
        have on5 : ONP (gUp ξ 267 0 0) μ5 := ⟨q1 269 (by decide), q2⟩
        have d6 := h5.run L (N := 0) (a := 300) (by decide) p6
        have d7 := nd_needs_l L h1 100000 0 _ v μ6 ζ (by decide) (on5.rf' rf6) e7
        exact (((d6.tr d7).tp p5).u0 (by decide)).le (by decide)
theorem nd_returns_l (L : lq_all) {n cn cl cg ct c : Nat} {y1 y2 : Int32} {ξ0 : gM} (tb : 0 ≤ tkI ξ0 ∧ tkI ξ0 ≤ 9999) : ∀ (m y : Nat) (v : Int32) (ξ ζ : gM), y ≤ 500 → nAcc n cn cl cg ct c ξ0 y ξ → fX12_returns_l35 m y1 y2 (nI y) ξ = some (v, ζ) → nDl 31155 ξ0 ζ := by
  have n69 : ∀ (y : Nat) (y3 v : Int32) (ξ ζ : gM), y ≤ 500 → nAcc n cn cl cg ct c ξ0 y ξ → fX12_returns_n69 y1 y2 y3 ξ = some (v, ζ) → nDl 31155 ξ0 ζ := fun y y3 v ξ ζ hy h e => by
    unfold fX12_returns_n69 fX12_returns_n84 at e
    obtain ⟨x7, -, e7⟩ := bdI e
    split at e7
    · obtain ⟨x, μ, p, e2⟩ := bpI e7
      exact ((h.dl.fp p).le (by omega)).st e2
    · obtain ⟨x, μ, p, e2⟩ := bpI e7
      exact ((h.dl.fp p).le (by omega)).st e2
  intro m
  induction m with
  | zero => intro _ _ _ _ _ _ e; exact nomatch e
  | succ m ih =>
    intro y v ξ ζ hy h e
    rw [fX12_returns_l35] at e
    obtain ⟨x6, -, e6⟩ := bdI e
    split at e6
    · by_cases w : (500 : Int32) ≤ nI y
      · rw [if_pos w] at e6
        exact n69 y _ v ξ ζ hy h e6
      · rw [if_neg w] at e6
        have ylt : y < 500 := by
          rcases Nat.lt_or_ge y 500 with z | z
          · exact z
          · exact absurd ((nIle (a := 500) (by omega) (by omega)).mpr z) w
        obtain ⟨x11, -, e11⟩ := bdI e6
        split at e11
        · exact n69 y _ v ξ ζ hy h e11
        · obtain ⟨μ12, p12, e12⟩ := bdI e11
          rw [zLt_eq, nI_1 y] at e12
          exact ih (y + 1) v μ12 ζ (by omega) (h.tick L tb (by omega) p12) e12
    · exact n69 y _ v ξ ζ hy h e6
theorem nd_returns (L : lq_all) {n cn cl cg ct c : Nat} {a1 a2 v : Int32} {ξ ζ : gM} (h : nLS n cn cl cg ct c ξ) (e : fX12_returns a1 a2 ξ = some (v, ζ)) : nDl 700000 ξ ζ := by
  unfold fX12_returns at e
  rw [zLt_eq] at e
  obtain ⟨x2, i2, e2⟩ := bdI e
  by_cases c2 : x2 = 0
  · rw [if_pos c2] at e2; exact nU0 (by decide) e2
  · rw [if_neg c2] at e2
    have h1 := h.u0 (i := 0) (v := 0)
    obtain ⟨g, k, m, rfl, rfl⟩ := h1.1.memb i2 c2
    have k6 := m.2.1
    obtain ⟨kc, -⟩ := h1.1.n20.2.2.2.2.2.2.2 g k m
    rw [mUp k6, zBd_some] at e2
    by_cases u : bt (gUp ξ 267 0 0 272 1) k = true
    · rw [if_pos u, if_neg one_n0] at e2
      exact nU0 (by decide) e2
    · rw [if_neg u, if_pos rfl] at e2
      obtain ⟨μ4, p4, e4⟩ := bdI e2
      obtain ⟨μ5, p5, e5⟩ := bdI e4
      have h4 := h1.tp p4
      obtain ⟨q1, -⟩ := nToP p4
      obtain ⟨r5, t5, mv, m5, ev⟩ := h4.1.up kc (by rw [q1 272 (by decide)]; exact Bool.eq_false_iff.mpr u) p5
      have d5 : nDl 5 μ4 μ5 := ⟨mv, m5, ev⟩
      have d := nd_returns_l L (by rw [t5]; exact h4.2) 100000 0 v μ5 ζ (by decide) (nAcc.rf r5) e5
      exact (((d5.tr d).tp p4).u0 (by decide)).le (by decide)
theorem nTkI (L : lq_all) {n cn cl cg ct c N : Nat} {ξ0 : gM} (tb : 0 ≤ tkI ξ0 ∧ tkI ξ0 ≤ 9999) (hN : N ≤ 500) : ∀ (m y : Nat) (v : Int32) (ξ ζ : gM), y ≤ N → nAcc n cn cl cg ct c ξ0 y ξ → fX12_ticks_l47 m (nI N) (nI y) ξ = some (v, ζ) → nAcc n cn cl cg ct c ξ0 N ζ := by
  intro m
  induction m with
  | zero => intro _ _ _ _ _ _ e; exact nomatch e
  | succ m ih =>
    intro y v ξ ζ hy h e
    rw [fX12_ticks_l47] at e
    by_cases w : nI N ≤ nI y
    · rw [if_pos w] at e
      obtain ⟨-, rfl⟩ := Prod.mk.inj (Option.some.inj e)
      have := (nIle (by omega) (by omega)).mp w
      rw [show N = y by omega]
      exact h
    · rw [if_neg w] at e
      have ylt : y < N := by
        rcases Nat.lt_or_ge y N with z | z
        · exact z
        · exact absurd ((nIle (by omega) (by omega)).mpr z) w
      obtain ⟨μ8, p8, e8⟩ := bdI e
      rw [zLt_eq, nI_1 y] at e8
      exact ih (y + 1) v μ8 ζ (by omega) (h.tick L tb (by omega) p8) e8
