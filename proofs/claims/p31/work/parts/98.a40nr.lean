/-! the dearest call; what fits -/
def nSm (ct n fb : Nat) : Nat := 18055 + jE ct * n - 2 * max 57 (300 * fb)
theorem nRun300 (L : lq_all) {n cn cl cg ct c : Nat} {ξ ξ' : gM} (h : nLS n cn cl cg ct c ξ) (e : fX12_goes 300 ξ = some ξ') : RF ξ ξ' ∧ nDl (nSm ct n (lq_rw (nFb c (ξ 269)) 5)) ξ ξ' := by
  have e' : mTk 300 ξ = some ξ' := (nGoes (N := 300) (by decide)).symm.trans e
  obtain ⟨⟨⟨μ, r⟩, h4, c9⟩, t0, t9⟩ := h
  obtain ⟨_, mv, Q, -, rf, -, v1, q1, q2, q3⟩ := nRun0 L (by decide) r t0 (by omega) h4 c9 e'
  refine ⟨rf, mv, ?_, v1⟩
  unfold nSm
  omega
theorem nd_least_l (L : lq_all) {n cn cl cg ct c g k : Nat} {ζ0 : gM} (h0 : nLS n cn cl cg ct c ζ0) (m' : mem (ζ0 269) g k) : ∀ (m w : Nat) (v : Int32) (ξ ζ : gM), 1 ≤ w → w ≤ 255 → ONP ζ0 ξ → fX12_least_l32 m (nI g) (nI k) (nI w) ξ = some (v, ζ) → nDl (nSm ct n (lq_rw (nFb c (ζ0 269)) 5) * (255 - w)) ξ ζ := by
  have hg := m'.1
  have hk := m'.2.1
  intro m
  induction m with
  | zero => intro _ _ _ _ _ _ _ e; exact nomatch e
  | succ m ih =>
    intro w v ξ ζ h1 h2 on e
    rw [fX12_least_l32] at e
    by_cases w5 : (255 : Int32) ≤ nI w
    · rw [if_pos w5] at e
      obtain ⟨x, μ, p, e2⟩ := bpI e
      exact ((nDl.rf (B := _) (ξ := ξ) rfl).fp p).st e2
    · rw [if_neg w5] at e
      have wlt : w < 255 := by
        rcases Nat.lt_or_ge w 255 with z | z
        · exact z
        · exact absurd ((nIle (a := 255) (by omega) (by omega)).mpr z) w5
      obtain ⟨μ7, p7, e7⟩ := bdI e
      rw [mOf _ hg hk, zBd_some] at e7
      have e7 := ckI e7
      rw [zLt_eq] at e7
      have j10 : ((10 : Int32) + nI (6 * g + k)).toNatClampNeg = 10 + (6 * g + k) := by rw [show (10 : Int32) = nI 10 from rfl, nI_add, nI_clamp (by omega)]
      rw [j10] at e7
      obtain ⟨μ11, p11, e11⟩ := bdI e7
      obtain ⟨x12, -, e12⟩ := bdI e11
      obtain ⟨f1, f2⟩ := nTakP p7
      have x9 : μ7 269 = ζ0 269 := (f1 269 (by decide)).trans on.1
      have h7 : nLS n cn cl cg ct c μ7 := h0.fr x9 (fun i hi => (f2 i hi).trans (on.2 i hi))
      have h8 : nLS n cn cl cg ct c (gUp μ7 272 (10 + (6 * g + k)) (nI w)) := ⟨h7.1.tell (by rw [x9]; exact m') (by rw [tN (by omega)]; omega), by unfold tkI; rw [zUp_slot _ (by omega)]; exact h7.2⟩
      obtain ⟨rf, d, d1, d2⟩ := nRun300 L h8 p11
      have x98 : gUp μ7 272 (10 + (6 * g + k)) (nI w) 269 = ζ0 269 := by rw [zUp_ne _ (by decide)]; exact x9
      rw [x98] at d1
      have dd : nDl (nSm ct n (lq_rw (nFb c (ζ0 269)) 5)) ξ μ11 := ⟨d, d1, by rw [d2, zUp_ne _ (by decide), f1 267 (by decide)]⟩
      have on11 : ONP ζ0 μ11 := ((on.take f1).up (by decide) (by decide)).rf' rf
      have le1 : nSm ct n (lq_rw (nFb c (ζ0 269)) 5) + nSm ct n (lq_rw (nFb c (ζ0 269)) 5) * (255 - (w + 1)) ≤ nSm ct n (lq_rw (nFb c (ζ0 269)) 5) * (255 - w) := by
        rw [show 255 - w = (255 - (w + 1)) + 1 by omega, Nat.mul_succ]
        omega
      split at e12
      · rw [zLt_eq, nI_1 w] at e12
        exact (dd.tr (ih (w + 1) v μ11 ζ (by omega) (by omega) on11 e12)).le le1
      · obtain ⟨x, μ, p, e2⟩ := bpI e12
        exact ((dd.le (by omega)).fp p).st e2
theorem nd_least (L : lq_all) {n cn cl cg ct c : Nat} {a1 a2 v : Int32} {ξ ζ : gM} (h : nLS n cn cl cg ct c ξ) (e : fX12_least a1 a2 ξ = some (v, ζ)) : nDl (254 * nSm ct n (lq_rw (nFb c (ξ 269)) 5)) ξ ζ := by
  unfold fX12_least at e
  rw [zLt_eq] at e
  obtain ⟨x2, i2, e2⟩ := bdI e
  by_cases c2 : x2 = 0
  · rw [if_pos c2] at e2; exact nU0 (by decide) e2
  · rw [if_neg c2] at e2
    obtain ⟨x3, -, e3⟩ := bdI e2
    split at e3
    · exact nU0 (by decide) e3
    · obtain ⟨μ4, p4, e4⟩ := bdI e3
      have h1 := h.u0 (i := 0) (v := 0)
      obtain ⟨g, k, m, rfl, rfl⟩ := h1.1.memb i2 c2
      obtain ⟨q1, q2⟩ := nToP p4
      have on4 : ONP (gUp ξ 267 0 0) μ4 := ⟨q1 269 (by decide), q2⟩
      have d := nd_least_l L h1 m 100000 1 v μ4 ζ (by decide) (by decide) on4 e4
      have x9 : gUp ξ 267 0 0 269 = ξ 269 := zUp_ne _ (by decide)
      rw [x9] at d
      exact ((d.tp p4).u0 (by decide)).le (by omega)
/-! the length of a net's text against its groups of six -/
def nLo (o : Nat → Int32) : Nat := 7 * (o 0).toInt.toNat + 16 * (o 2).toInt.toNat + 25 * (o 3).toInt.toNat + 21 * nMc o
theorem nMc6 (o : Nat → Int32) : 6 * lq_rw (nSx o) 5 ≤ nMc o := by
  have e : nMc o = 0 + lq_rw (fun k => bt (o (48 + (6 * 0 + k) / 6)) ((6 * 0 + k) % 6)) 6 + lq_rw (fun k => bt (o (48 + (6 * 1 + k) / 6)) ((6 * 1 + k) % 6)) 6 + lq_rw (fun k => bt (o (48 + (6 * 2 + k) / 6)) ((6 * 2 + k) % 6)) 6 + lq_rw (fun k => bt (o (48 + (6 * 3 + k) / 6)) ((6 * 3 + k) % 6)) 6 + lq_rw (fun k => bt (o (48 + (6 * 4 + k) / 6)) ((6 * 4 + k) % 6)) 6 := by
    unfold nMc
    rw [show (30 : Nat) = 6 * 4 + 6 from rfl, lq_rw_sp, show (6 * 4 : Nat) = 6 * 3 + 6 from rfl, lq_rw_sp, show (6 * 3 : Nat) = 6 * 2 + 6 from rfl, lq_rw_sp, show (6 * 2 : Nat) = 6 * 1 + 6 from rfl, lq_rw_sp, show (6 * 1 : Nat) = 6 * 0 + 6 from rfl, lq_rw_sp]
    rfl
  have g6 : ∀ g, (if nSx o g = true then 6 else 0) ≤ lq_rw (fun k => bt (o (48 + (6 * g + k) / 6)) ((6 * g + k) % 6)) 6 := fun g => by
    by_cases c : nSx o g = true
    · rw [if_pos c]
      unfold nSx at c
      simp only [Bool.and_eq_true] at c
      obtain ⟨c0, c1, c2, c3, c4, c5⟩ := c
      have q : lq_rw (fun k => bt (o (48 + (6 * g + k) / 6)) ((6 * g + k) % 6)) 6 = 6 := by
        rw [lq_rw_cg (q := fun _ => true) (fun j hj => ?_)]
        · rfl
        · have cj : j = 0 ∨ j = 1 ∨ j = 2 ∨ j = 3 ∨ j = 4 ∨ j = 5 := by omega
          rw [show (6 * g + j) / 6 = g by omega, show (6 * g + j) % 6 = j by omega]
          rcases cj with rfl | rfl | rfl | rfl | rfl | rfl
          · exact c0
          · exact c1
          · exact c2
          · exact c3
          · exact c4
          · exact c5
      omega
    · rw [if_neg c]; omega
  have g0 := g6 0
  have g1 := g6 1
  have g2 := g6 2
  have g3 := g6 3
  have g4 := g6 4
  have s : 6 * lq_rw (nSx o) 5 = (if nSx o 0 = true then 6 else 0) + (if nSx o 1 = true then 6 else 0) + (if nSx o 2 = true then 6 else 0) + (if nSx o 3 = true then 6 else 0) + (if nSx o 4 = true then 6 else 0) := by
    show 6 * (0 + (if nSx o 0 = true then 1 else 0) + (if nSx o 1 = true then 1 else 0) + (if nSx o 2 = true then 1 else 0) + (if nSx o 3 = true then 1 else 0) + (if nSx o 4 = true then 1 else 0)) = _
    cases nSx o 0 <;> cases nSx o 1 <;> cases nSx o 2 <;> cases nSx o 3 <;> cases nSx o 4 <;> rfl
  omega
theorem lq_rw_not {p : Nat → Bool} : ∀ n, lq_rw (fun j => !p j) n + lq_rw p n = n := by
  intro n
  induction n with
  | zero => rfl
  | succ n ih =>
    show lq_rw (fun j => !p j) n + (if (!p n) = true then 1 else 0) + (lq_rw p n + (if p n = true then 1 else 0)) = n + 1
    cases p n <;> simp <;> omega
/-- a net with k groups of six has a text this long -/
theorem nLo_k {n cn cl cg ct c : Nat} {ξ : gM} (h : nLR n cn cl cg ct c ξ) : 142 * lq_rw (nSx (ξ 269)) 5 + (if lq_rw (nSx (ξ 269)) 5 = 0 then 0 else 42) + 25 * ct ≤ nLo (ξ 269) := by
  obtain ⟨-, -, c24, ⟨c6, c5⟩, r0, r2, r3, mb⟩ := h.n20
  have m6 := nMc6 (ξ 269)
  have kg : lq_rw (nSx (ξ 269)) 5 ≤ cg := by
    have a := lq_rw_mono (p := nSx (ξ 269)) (q := fun j => decide (j < cg)) (n := 5) (fun j hj w => by
      unfold nSx at w
      rw [Bool.and_eq_true] at w
      exact decide_eq_true (mb j 0 ⟨hj, by decide, w.1⟩).2)
    have b : lq_rw (fun j => decide (j < cg)) 5 ≤ cg := by
      rw [show (5 : Nat) = cg + (5 - cg) by omega, lq_rw_sp, lq_rw_0 (n := 5 - cg) (fun j _ => decide_eq_false (by omega))]
      have := lq_rw_le (p := fun j => decide (j < cg)) cg
      omega
    omega
  have k6 : lq_rw (nSx (ξ 269)) 5 = 0 ∨ 6 ≤ cn := by
    rcases Nat.eq_zero_or_pos (lq_rw (nSx (ξ 269)) 5) with z | z
    · exact Or.inl z
    · right
      rcases Classical.em (∃ j, j < 5 ∧ nSx (ξ 269) j = true) with ⟨j, hj, w⟩ | w
      · unfold nSx at w
        simp only [Bool.and_eq_true] at w
        have := (mb j 5 ⟨hj, by decide, w.2.2.2.2.2⟩).1
        omega
      · rw [lq_rw_0 (fun j hj => by
          cases q : nSx (ξ 269) j with
          | false => rfl
          | true => exact absurd ⟨j, hj, q⟩ w)] at z
        omega
  unfold nLo
  rw [r0, r2, r3, tN (by omega), tN (by omega), tN (by omega)]
  split <;> omega
def nBd : Nat := 2147333648
def nT1 (k ct n : Nat) : Bool := Nat.ble (254 * nSm ct n (5 - k) * (510 - ((142 * k + (if k = 0 then 0 else 42) + 25 * ct + 10 * n + 19) / 20 + (if k = 5 then 1 else 0))) + 700000) nBd
theorem nT1_all : ∀ k, k < 6 → ∀ ct, ct < 25 → ∀ n, n < 21 → nT1 k ct n = true := by decide +kernel
theorem nSm_b : ∀ k, k < 6 → ∀ ct, ct < 25 → ∀ n, n < 21 → 700000 ≤ 254 * nSm ct n (5 - k) := by decide +kernel
theorem nSm_0 : ∀ ct, ct < 25 → ∀ n, n < 21 → 254 * nSm ct n 5 * 511 ≤ nBd ∧ 700000 ≤ 254 * nSm ct n 5 := by decide +kernel
/-- the dearest call fits -/
theorem nFit {n cn cl cg ct c F N O E tp : Nat} {ξ : gM} (h : nLR n cn cl cg ct c ξ) (hE : n ≤ E) (ht : nLo (ξ 269) + 10 * E + tp ≤ 20 * F) (hO : O = 0 → c = 0) (hN : N = 0 → nLo (ξ 269) = 0) (h5 : F + N + O ≤ 511) : 254 * nSm ct n (lq_rw (nFb c (ξ 269)) 5) * (511 - (F + N + O)) + 700000 * O ≤ nBd ∧ 700000 ≤ 254 * nSm ct n (lq_rw (nFb c (ξ 269)) 5) := by
  obtain ⟨n20, -, c24, -⟩ := h.n20
  by_cases c0 : c = 0
  · have fb : lq_rw (nFb c (ξ 269)) 5 = 5 := by
      rw [lq_rw_cg (q := fun _ => true) (fun j hj => by unfold nFb; rw [decide_eq_true c0]; rfl)]
      rfl
    rw [fb]
    obtain ⟨a, b⟩ := nSm_0 ct (by omega) n (by omega)
    generalize 254 * nSm ct n 5 = T at a b ⊢
    refine ⟨?_, b⟩
    have e1 : T * 511 = T * (511 - (F + N + O)) + T * (F + N) + T * O := by
      rw [← Nat.mul_add, ← Nat.mul_add, show 511 - (F + N + O) + (F + N) + O = 511 by omega]
    have e2 : 700000 * O ≤ T * O := Nat.mul_le_mul_right O b
    omega
  · have O1 : 1 ≤ O := by
      rcases Nat.eq_zero_or_pos O with z | z
      · exact absurd (hO z) c0
      · exact z
    have nt := lq_rw_not (p := nSx (ξ 269)) 5
    have fb : lq_rw (nFb c (ξ 269)) 5 = 5 - lq_rw (nSx (ξ 269)) 5 := by
      rw [lq_rw_cg (q := fun j => !nSx (ξ 269) j) (fun j hj => by unfold nFb; rw [decide_eq_false c0]; rfl)]
      omega
    have lk := nLo_k h
    rw [fb]
    have k5 : lq_rw (nSx (ξ 269)) 5 ≤ 5 := lq_rw_le 5
    generalize lq_rw (nSx (ξ 269)) 5 = k at lk k5 ⊢
    have t := Nat.le_of_ble_eq_true (nT1_all k (by omega) ct (by omega) n (by omega))
    have b := nSm_b k (by omega) ct (by omega) n (by omega)
    have fx : (142 * k + (if k = 0 then 0 else 42) + 25 * ct + 10 * n + 19) / 20 ≤ F := by omega
    have nx : (if k = 5 then 1 else 0) ≤ N := by
      by_cases ck : k = 5
      · rw [if_pos ck]
        rcases Nat.eq_zero_or_pos N with z | z
        · have := hN z
          omega
        · exact z
      · rw [if_neg ck]; omega
    generalize 254 * nSm ct n (5 - k) = T at t b ⊢
    generalize (142 * k + (if k = 0 then 0 else 42) + 25 * ct + 10 * n + 19) / 20 = F0 at t fx
    generalize (if k = 5 then 1 else 0) = N0 at t nx
    refine ⟨?_, b⟩
    have e0 : T * (510 - (F0 + N0)) = T * (511 - (F + N + O)) + T * (F + N - (F0 + N0)) + T * (O - 1) := by
      rw [← Nat.mul_add, ← Nat.mul_add, show 511 - (F + N + O) + (F + N - (F0 + N0)) + (O - 1) = 510 - (F0 + N0) by omega]
    have e2 : 700000 * (O - 1) ≤ T * (O - 1) := Nat.mul_le_mul_right (O - 1) b
    omega
