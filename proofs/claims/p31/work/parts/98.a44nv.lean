/-! the moves of all calls so far -/
def nMV (i : Nat) (ξ : gM) : Prop := ∃ F N O H P M E tp : Nat, F + N + O + H ≤ i ∧ ξ 267 22 = nI M ∧ M ≤ H * P + 700000 * O + 30 * N ∧ 700000 ≤ P ∧ P * (511 - (F + N + O)) + 700000 * O ≤ nBd ∧ (ξ 267 2 = nI tp ∧ tp ≤ 1500) ∧ nLo (ξ 269) + 10 * E + tp ≤ 20 * F ∧ nBK E ξ ∧ (O = 0 → ξ 272 4 = 0) ∧ (N = 0 → nLo (ξ 269) = 0)
theorem nMV.cls {i : Nat} {ξ ζ : gM} (h : nMV i ξ) (x : ∀ a, 267 ≤ a → ζ a = ξ a) : nMV i ζ := by
  unfold nMV nBK at *
  rw [x 267 (by decide), x 269 (by decide), x 272 (by decide), x 273 (by decide)]
  exact h
theorem nMV.nx {i : Nat} {ξ : gM} (h : nMV i ξ) : nMV (i + 1) ξ := by
  obtain ⟨F, N, O, H, P, M, E, tp, h1, h2⟩ := h
  exact ⟨F, N, O, H, P, M, E, tp, by omega, h2⟩
theorem nMV_0 : nMV 0 gM0 := by
  have z : ∀ i, i ≠ 9 → gM0 267 i = 0 := fun i hi => by
    unfold gM0
    rw [if_neg (by decide), if_neg (fun w => absurd w.1 (by decide)), if_neg (fun w => hi w.2)]
  have z' : ∀ a, a ≠ 3 → a ≠ 1 → a ≠ 267 → ∀ i, gM0 a i = 0 := fun a h1 h2 h3 i => by rw [gM0_z h1 h2 h3]
  have lo : nLo (gM0 269) = 0 := by
    have m : nMc (gM0 269) = 0 := lq_rw_0 (fun j _ => by rw [z' 269 (by decide) (by decide) (by decide)]; exact bt_zero _)
    unfold nLo
    rw [m, z' 269 (by decide) (by decide) (by decide), z' 269 (by decide) (by decide) (by decide), z' 269 (by decide) (by decide) (by decide)]
    decide
  have b0 : nB1 0 (0 : Int32) 0 := ⟨by decide, by decide⟩
  refine ⟨0, 0, 0, 0, 4000000, 0, 0, 0, by decide, z 22 (by decide), by decide, by decide, by unfold nBd; decide, ⟨z 2 (by decide), by decide⟩, by rw [lo]; decide, ⟨?_, fun b _ => ?_⟩, fun _ => z' 272 (by decide) (by decide) (by decide) 4, fun _ => lo⟩
  · rw [z' 272 (by decide) (by decide) (by decide), z' 272 (by decide) (by decide) (by decide)]; exact b0
  · rw [z' 273 (by decide) (by decide) (by decide), z' 273 (by decide) (by decide) (by decide)]; exact b0
theorem nOth1 {A A' P O B : Nat} (e : A = A' + P) (h4 : 700000 ≤ P) (h5 : A + 700000 * O ≤ B) : A' + 700000 * (O + 1) ≤ B := by
  have q : A' + 700000 * (O + 1) ≤ A' + (700000 * O + P) := Nat.add_le_add_left (Nat.add_le_add_left h4 (700000 * O)) A'
  refine Nat.le_trans q ?_
  rw [e] at h5
  rw [Nat.add_comm (700000 * O) P, ← Nat.add_assoc]
  exact h5
theorem nOth2 {O : Nat} (h : O ≤ 511) : 0 + 700000 * (O + 1) ≤ nBd := by
  have : 700000 * (O + 1) ≤ 700000 * 512 := Nat.mul_le_mul_left 700000 (by omega)
  rw [Nat.zero_add]
  exact Nat.le_trans this (by unfold nBd; decide)
/-- any call but feed, net, least -/
theorem nMV.oth {i : Nat} {ξ ζ : gM} (h : nMV i ξ) (hi : i ≤ 511) (e9 : ζ 269 = ξ 269) (f : ∀ E tp : Nat, nBK E ξ → ξ 267 2 = nI tp → tp ≤ 1500 → nDl 700000 ξ ζ ∧ ∃ E' tp' : Nat, ζ 267 2 = nI tp' ∧ tp' ≤ 1500 ∧ 10 * E' + tp' ≤ 10 * E + tp ∧ nBK E' ζ) : nMV (i + 1) ζ := by
  obtain ⟨F, N, O, H, P, M, E, tp, h1, h2, h3, h4, h5, ⟨h6, h7⟩, h8, h9, h10, h11⟩ := h
  obtain ⟨⟨d, d1, d2⟩, E', tp', g1, g2, g3, g4⟩ := f E tp h9 h6 h7
  refine ⟨F, N, O + 1, H, P, M + d, E', tp', by omega, by rw [d2, h2, nI_add], by omega, h4, ?_, ⟨g1, g2⟩, by rw [e9]; omega, g4, fun w => by omega, fun w => by rw [e9]; exact h11 w⟩
  by_cases c : F + N + O < 511
  · have e : P * (511 - (F + N + O)) = P * (511 - (F + N + (O + 1))) + P := by
      rw [show 511 - (F + N + O) = (511 - (F + N + (O + 1))) + 1 by omega, Nat.mul_succ]
    exact nOth1 e h4 h5
  · rw [show 511 - (F + N + (O + 1)) = 0 by omega, Nat.mul_zero]
    exact nOth2 (by omega)
theorem nMV.rq {i : Nat} {ξ ζ : gM} (h : nMV i ξ) (r : RQ ξ ζ) : nMV (i + 1) ζ := by
  obtain ⟨r1, r2⟩ := r
  have h' := h.nx
  unfold nMV nBK at *
  rw [r2 22 (by decide), r2 2 (by decide), r1 269 (by decide) (by decide) (by decide), r1 272 (by decide) (by decide) (by decide), r1 273 (by decide) (by decide) (by decide)]
  exact h'
theorem RQ.rf (ξ : gM) : RQ ξ ξ := ⟨fun _ _ _ _ => rfl, fun _ _ => rfl⟩
theorem PQ.rf (ξ : gM) : PQ ξ ξ := ⟨rfl, rfl, rfl⟩
theorem P_le {P X Y : Nat} (h : X ≤ Y) : P * (511 - Y) ≤ P * (511 - X) := Nat.mul_le_mul_left P (by omega)
theorem nMV.feed {i : Nat} {a b c d e v : Int32} {ξ ζ : gM} (h : nMV i ξ) (e2 : fX12_feed a b c d e ξ = some (v, ζ)) : nMV (i + 1) ζ := by
  obtain ⟨F, N, O, H, P, M, E, tp, h1, h2, h3, h4, h5, ⟨h6, h7⟩, h8, h9, h10, h11⟩ := h
  obtain ⟨⟨q1, q2⟩, tp', g1, g2, g3⟩ := nFeedE h6 h7 e2
  have e9 : ζ 269 = ξ 269 := q1 269 (by decide) (by decide)
  have e72 : ζ 272 = ξ 272 := q1 272 (by decide) (by decide)
  have pl := P_le (P := P) (X := F + N + O) (Y := F + 1 + N + O) (by omega)
  exact ⟨F + 1, N, O, H, P, M, E, tp', by omega, by rw [q2 22 (by decide) (by decide)]; exact h2, h3, h4, by omega, ⟨g1, g2⟩, by rw [e9]; omega, h9.fr (fun i _ => by rw [e72]) (fun i _ => by rw [q1 273 (by decide) (by decide)]), fun w => by rw [e72]; exact h10 w, fun w => by rw [e9]; exact h11 w⟩
theorem nMV.net {i : Nat} {v : Int32} {ξ ζ : gM} (h : nMV i ξ) (mt : ∀ tp : Nat, ξ 267 2 = nI tp → tp ≤ 1500 → ∃ b : Nat → Nat, ∀ χ : gM, χ 268 = ξ 268 → χ 267 3 = ξ 267 2 → MT b tp χ) (e2 : fX12_net ξ = some (v, ζ)) : nMV (i + 1) ζ := by
  obtain ⟨F, N, O, H, P, M, E, tp, h1, h2, h3, h4, h5, ⟨h6, h7⟩, h8, h9, h10, h11⟩ := h
  obtain ⟨b, mb⟩ := mt tp h6 h7
  obtain ⟨g1, g2, ⟨d, d1, d2⟩, g3⟩ := nNetE h6 h7 mb e2
  have pl := P_le (P := P) (X := F + N + O) (Y := F + (N + 1) + O) (by omega)
  have b14 : ∀ b, b < 14 → nB1 E (ζ 273 (490 * b + 4)) (ζ 273 (490 * b + 8)) := fun b hb => by rw [g2]; exact h9.2 b hb
  rcases g3 with ⟨g3, g4⟩ | ⟨g3, g4, g5⟩
  · exact ⟨F, N + 1, O, H, P, M + d, E, 0, by omega, by rw [d2, h2, nI_add], by omega, h4, by omega, ⟨g1, by decide⟩, by rw [g3]; omega, ⟨by rw [g4]; exact h9.1, b14⟩, fun w => by rw [g4]; exact h10 w, fun w => by omega⟩
  · refine ⟨F, N + 1, O, H, P, M + d, E, 0, by omega, by rw [d2, h2, nI_add], by omega, h4, by omega, ⟨g1, by decide⟩, by omega, ⟨?_, b14⟩, fun _ => g4, fun w => by omega⟩
    rw [g4, g5]
    exact ⟨by decide, by rw [show (0 : Int32).toInt = 0 from rfl]; omega⟩
theorem LIVE.ls {E : Nat} {μ ξ : gM} (l : LIVE μ ξ) (b : nBK E ξ) : ∃ n cn cl cg ct c cnt, nLS n cn cl cg ct c ξ ∧ n ≤ E ∧ ξ 272 4 = nI c ∧ ξ 267 20 = nI cnt ∧ cnt ≤ 12 := by
  obtain ⟨c0, n, cn, cl, cg, ct, r⟩ := l.rs
  obtain ⟨cnt, idx, p1, -, -, -, p5, -⟩ := l.2.2
  obtain ⟨⟨b1, b2⟩, b3⟩ := b.1
  have e4 : ξ 272 4 = nI (ξ 272 4).toInt.toNat := nI_of' (by omega)
  have lr : nLR n cn cl cg ct (ξ 272 4).toInt.toNat ξ := ⟨⟨μ, r.lr rfl (fun _ _ => rfl)⟩, e4, by omega⟩
  refine ⟨n, cn, cl, cg, ct, (ξ 272 4).toInt.toNat, cnt, ⟨lr, l.gd.tb⟩, ?_, e4, p5, p1⟩
  obtain ⟨n20, e8, -⟩ := lr.n20
  rw [e8, tN (by omega)] at b3
  omega
/-- an act, a call on paper -/
theorem nMV.act {i : Nat} {v : Int32} {μ μ1 μ2 : gM} {f : Option (Int32 × gM)} {g : gM → Option (Int32 × gM)} (h : INV μ) (m : nMV i μ) (hi : i ≤ 511) (e1 : f = some (v, μ1)) {w : Int32} (e2 : g μ1 = some (w, μ2)) (hf : zH f (fun r => J true (μ 1 2) μ r.2)) (pq : PQ μ1 μ2) (dd : DEAD μ → ∃ v, f = some (v, μ) ∧ g μ = some (v, gUp μ 267 0 0)) (live : ∀ n cn cl cg ct c cnt E, nLS n cn cl cg ct c μ1 → μ1 267 20 = nI cnt → cnt ≤ 12 → nBK E μ1 → n ≤ E → nAE E μ1 μ2) : nMV (i + 1) μ2 := by
  rcases h.th with ⟨t, t2, z⟩ | ⟨t, t2, l⟩
  · obtain ⟨u, f1, f2⟩ := dd (h.dead t t2 z)
    rw [e1] at f1
    obtain ⟨rfl, rfl⟩ := Prod.mk.inj (Option.some.inj f1)
    rw [e2] at f2
    obtain ⟨rfl, rfl⟩ := Prod.mk.inj (Option.some.inj f2)
    exact m.rq (RQ_up (RQ.rf _) (Or.inr (Or.inr ⟨rfl, rfl⟩)))
  · have j0 := zHu hf e1
    have x : ∀ a, 267 ≤ a → μ1 a = μ a := fun a ha => j0.2.2.2 a (Or.inr (Or.inl ha))
    have l1 : LIVE μ μ1 := l.fm x
    refine (m.cls x).oth hi pq.1 (fun E tp b q1 q2 => ?_)
    obtain ⟨n, cn, cl, cg, ct, c, cnt, ls, nE, -, c1, c2⟩ := l1.ls b
    obtain ⟨a1, a2⟩ := live n cn cl cg ct c cnt E ls c1 c2 b nE
    exact ⟨a1, E, tp, by rw [pq.2.1]; exact q1, q2, Nat.le_refl _, a2⟩
theorem nAE.rb {E : Nat} {ξ ζ : gM} (d : nDl 700000 ξ ζ) (b : nBK E ξ) (r : RB ξ ζ) : nAE E ξ ζ := ⟨d, b.fr (fun i hi => r.1 i (by omega)) (fun i hi => r.2.1 i hi)⟩
/-- least -/
theorem nMV.hvy (L : lq_all) {i : Nat} {a1 a2 v w : Int32} {μ μ1 μ2 : gM} (h : INV μ) (m : nMV i μ) (hi : i ≤ 511) (e1 : fX11_least a1 a2 μ = some (v, μ1)) (e2 : fX12_least a1 a2 μ1 = some (w, μ2)) : nMV (i + 1) μ2 := by
  rcases h.th with ⟨t, t2, z⟩ | ⟨t, t2, l⟩
  · obtain ⟨u, f1, f2⟩ := d_least (a1 := a1) (a2 := a2) (h.dead t t2 z)
    rw [e1] at f1
    obtain ⟨rfl, rfl⟩ := Prod.mk.inj (Option.some.inj f1)
    rw [e2] at f2
    obtain ⟨rfl, rfl⟩ := Prod.mk.inj (Option.some.inj f2)
    exact m.rq (RQ_up (RQ.rf _) (Or.inr (Or.inr ⟨rfl, rfl⟩)))
  · have j0 := zHu (tX11_least (a1 := a1) (a2 := a2) h.1.1.1) e1
    have x : ∀ a, 267 ≤ a → μ1 a = μ a := fun a ha => j0.2.2.2 a (Or.inr (Or.inl ha))
    have l1 : LIVE μ μ1 := l.fm x
    obtain ⟨F, N, O, H, P, M, E, tp, h1, h2, h3, h4, h5, ⟨h6, h7⟩, h8, h9, h10, h11⟩ := m.cls x
    obtain ⟨n, cn, cl, cg, ct, c, cnt, ls, nE, c4, -, -⟩ := l1.ls h9
    have pq : PQ μ1 μ2 := oX12_least (m := μ1) (PQ.rf _) _ e2
    have rb : RB μ1 μ2 := rX12_least (m := μ1) (RB.rf _) _ e2
    obtain ⟨d, d1, d2⟩ := nd_least L ls e2
    obtain ⟨fit, big⟩ := nFit ls.1 nE h8 (fun w => by
      have := h10 w
      rw [c4] at this
      exact nI_inj (a := c) (b := 0) (by have := ls.1.2.2; omega) (by decide) this) h11 (show F + N + O ≤ 511 by omega)
    generalize 254 * nSm ct n (lq_rw (nFb c (μ1 269)) 5) = D at d1 fit big
    refine ⟨F, N, O, H + 1, max P D, M + d, E, tp, by omega, by rw [d2, h2, nI_add], ?_, by omega, ?_, ⟨by rw [pq.2.1]; exact h6, h7⟩, by rw [pq.1]; exact h8, h9.fr (fun i hi => rb.1 i (by omega)) (fun i hi => rb.2.1 i hi), fun w => by rw [rb.1 4 (by decide)]; exact h10 w, fun w => by rw [pq.1]; exact h11 w⟩
    · have q1 : H * P ≤ H * max P D := Nat.mul_le_mul_left H (by omega)
      rw [Nat.succ_mul]
      omega
    · rcases Nat.le_total P D with q | q
      · rw [show max P D = D by omega]; exact fit
      · rw [show max P D = P by omega]; exact h5
/-- far from the end of an int -/
theorem nMV.bd {i : Nat} {ξ : gM} (h : nMV i ξ) (hi : i ≤ 511) : ∃ M, ξ 267 22 = nI M ∧ M ≤ 2147400000 := by
  obtain ⟨F, N, O, H, P, M, E, tp, h1, h2, h3, h4, h5, -⟩ := h
  refine ⟨M, h2, ?_⟩
  have q : H * P ≤ P * (511 - (F + N + O)) := by
    rw [Nat.mul_comm H P]
    exact Nat.mul_le_mul_left P (by omega)
  unfold nBd at h5
  omega
theorem d_settles {μ : gM} (d : DEAD μ) : ∃ v, fX11_settles μ = some (v, μ) ∧ fX12_settles μ = some (v, gUp μ 267 0 0) := by
  obtain ⟨t, t2, -⟩ := d
  unfold fX11_settles fX12_settles
  rw [zLt_eq, if_pos t, if_pos t2]
  exact ⟨_, rfl, rfl⟩
theorem INV.settlesV (L : lq_all) {i : Nat} {μ : gM} (h : INV μ) (m : nMV i μ) (hi : i ≤ 511) : ∃ (v : Int32) (μ1 μ2 : gM), fX11_settles μ = some (v, μ1) ∧ fX12_settles μ1 = some (v, μ2) ∧ INV μ2 := by
  obtain ⟨M, em, hM⟩ := m.bd hi
  obtain ⟨v, v2, m1, m2, e1, e2, b⟩ := h.settles0
  have j0 := zHu (tX11_settles h.1.1.1) e1
  have x : ∀ a, 267 ≤ a → m1 a = μ a := fun a ha => j0.2.2.2 a (Or.inr (Or.inl ha))
  rcases h.th with ⟨t, t2, z⟩ | ⟨t, t2, l⟩
  · obtain ⟨u, f1, f2⟩ := d_settles (h.dead t t2 z)
    rw [e1] at f1
    obtain ⟨rfl, rfl⟩ := Prod.mk.inj (Option.some.inj f1)
    rw [e2] at f2
    obtain ⟨rfl, rfl⟩ := Prod.mk.inj (Option.some.inj f2)
    exact ⟨_, _, _, e1, e2, b⟩
  · obtain ⟨F, N, O, H, P, M', E, tp, h1, h2, h3, h4, h5, -, -, h9, -⟩ := m.cls x
    obtain ⟨n, cn, cl, cg, ct, c, cnt, ls, -, c4, -⟩ := (l.fm x).ls h9
    obtain ⟨w, μ', ξ', f1, f2⟩ := pSettlesV L (l.fm x) t (by rw [x 267 (by decide)]; exact t2) c4 ls.1.2.2 (by rw [x 267 (by decide)]; exact em) hM
    rw [e1] at f1
    obtain ⟨rfl, rfl⟩ := Prod.mk.inj (Option.some.inj f1)
    rw [e2] at f2
    obtain ⟨rfl, rfl⟩ := Prod.mk.inj (Option.some.inj f2)
    exact ⟨_, _, _, e1, e2, b⟩
/-- the tape's bytes -/
theorem nTape {μ ξ : gM} (h : INV μ) (x : ∀ a, 267 ≤ a → ξ a = μ a) : ∀ tp : Nat, ξ 267 2 = nI tp → tp ≤ 1500 → ∃ b : Nat → Nat, ∀ χ : gM, χ 268 = ξ 268 → χ 267 3 = ξ 267 2 → MT b tp χ := fun tp h2 ht => by
  have hb := h.1.1
  have e12 : μ 1 2 = nI tp := by rw [hb.2.2, ← x 267 (by decide)]; exact h2
  refine ⟨tb μ, fun χ h8 h3 => ?_⟩
  have := tapeM (ξ := χ) hb h.1.2.1 (by rw [h8, x 268 (by decide)]) (by rw [h3, h2, e12])
  rw [e12, tN (by omega)] at this
  exact this
theorem feedC {a b c d e v : Int32} {μ μ1 : gM} (h1 : fX11_feed a b c d e μ = some (v, μ1)) : ∀ x, 267 ≤ x → μ1 x = μ x := fun x hx => by
  unfold fX11_feed at h1
  by_cases c : ((μ 1 2) + (20 : Int32)) ≤ (1500 : Int32)
  · rw [if_pos c] at h1
    obtain ⟨ν1, e1, h1⟩ := bdI h1
    obtain ⟨ν2, e2, h1⟩ := bdI h1
    obtain ⟨ν3, e3, h1⟩ := bdI h1
    obtain ⟨ν4, e4, h1⟩ := bdI h1
    obtain ⟨ν5, e5, h1⟩ := bdI h1
    obtain ⟨rfl, rfl⟩ := Prod.mk.inj (Option.some.inj h1)
    unfold fX7_append at e1 e2 e3 e4 e5
    rw [(apI _ _ _ _ e5).1 x (by omega) (by omega), (apI _ _ _ _ e4).1 x (by omega) (by omega), (apI _ _ _ _ e3).1 x (by omega) (by omega), (apI _ _ _ _ e2).1 x (by omega) (by omega), (apI _ _ _ _ e1).1 x (by omega) (by omega)]
  · rw [if_neg c] at h1
    obtain ⟨rfl, rfl⟩ := Prod.mk.inj (Option.some.inj h1)
    rfl
theorem endC {a v : Int32} {μ μ1 : gM} (h1 : fX11_end a μ = some (v, μ1)) : ∀ x, 267 ≤ x → μ1 x = μ x := fun x hx => by
  unfold fX11_end at h1
  by_cases c : a < 0
  · rw [if_pos c] at h1
    obtain ⟨rfl, rfl⟩ := Prod.mk.inj (Option.some.inj h1)
    rfl
  · rw [if_neg c] at h1
    by_cases d : a ≤ μ 1 2
    · rw [if_pos d, zLt_eq] at h1
      obtain ⟨rfl, rfl⟩ := Prod.mk.inj (Option.some.inj h1)
      exact zUp_ne _ (by omega)
    · rw [if_neg d] at h1
      obtain ⟨rfl, rfl⟩ := Prod.mk.inj (Option.some.inj h1)
      rfl
theorem nMV.fin {i : Nat} {a v w : Int32} {μ μ1 μ2 : gM} (m : nMV i μ) (hi : i ≤ 511) (e1 : fX11_end a μ = some (v, μ1)) (e2 : fX12_end a μ1 = some (w, μ2)) : nMV (i + 1) μ2 := by
  have fq := vqX12_end (m := μ1) ⟨fun _ _ _ => rfl, fun _ _ _ => rfl⟩ _ e2
  refine (m.cls (endC e1)).oth hi (fq.1 269 (by decide) (by decide)) (fun E tp b q1 q2 => ?_)
  obtain ⟨⟨f1, f2⟩, tp', g1, g2, g3⟩ := nEndE q1 q2 e2
  exact ⟨nDl.rf (f2 22 (by decide) (by decide)), E, tp', g1, g2, by omega, b.fr (fun i _ => by rw [f1 272 (by decide) (by decide)]) (fun i _ => by rw [f1 273 (by decide) (by decide)])⟩
theorem nMV.pln {i : Nat} {v w : Int32} {μ μ1 μ2 : gM} (h : INV μ) (m : nMV i μ) (hi : i ≤ 511) (e1 : fX11_plan μ = some (v, μ1)) (e2 : fX12_plan μ1 = some (w, μ2)) : nMV (i + 1) μ2 := by
  have j1 := zHu (tX11_plan h.1.1.1.weak) e1
  have j1 : J false 0 μ μ1 := j1
  have x : ∀ a, 267 ≤ a → μ1 a = μ a := fun a ha => j1.2.2.2 a (Or.inr (Or.inl ha))
  have m1 := m.cls x
  have e9 : μ2 269 = μ1 269 := by
    obtain ⟨F, N, O, H, P, M, E, tp, -, -, -, -, -, ⟨h6, h7⟩, -, h9, -⟩ := m1
    obtain ⟨b, mb⟩ := nTape h x tp h6 h7
    rcases h.th with ⟨t, t2, z⟩ | ⟨t, t2, l⟩
    · unfold fX12_plan at e2
      rw [zLt_eq, if_pos (show gUp μ1 267 0 0 267 15 = 0 by rw [zUp_slot _ (by decide), x 267 (by decide)]; exact t2), zLt_eq] at e2
      obtain ⟨-, rfl⟩ := Prod.mk.inj (Option.some.inj e2)
      rw [zUp_ne _ (by decide), zUp_ne _ (by decide)]
    · obtain ⟨n, cn, cl, cg, ct, c, cnt, -, -, -, c1, c2⟩ := (l.fm x).ls h9
      exact (nPlanE h6 h7 mb c1 c2 h9 e2).2.1
  refine m1.oth hi e9 (fun E tp b q1 q2 => ?_)
  obtain ⟨b', mb⟩ := nTape h x tp q1 q2
  rcases h.th with ⟨t, t2, z⟩ | ⟨t, t2, l⟩
  · unfold fX12_plan at e2
    rw [zLt_eq, if_pos (show gUp μ1 267 0 0 267 15 = 0 by rw [zUp_slot _ (by decide), x 267 (by decide)]; exact t2), zLt_eq] at e2
    obtain ⟨-, rfl⟩ := Prod.mk.inj (Option.some.inj e2)
    exact ⟨nDl.rf (by rw [zUp_slot _ (by decide), zUp_slot _ (by decide)]), E, 0, by rw [zUp_same]; rfl, by decide, by omega, b.u0.u0⟩
  · obtain ⟨n, cn, cl, cg, ct, c, cnt, -, -, -, c1, c2⟩ := (l.fm x).ls b
    obtain ⟨p1, -, p3, E', p4, p5⟩ := nPlanE q1 q2 mb c1 c2 b e2
    exact ⟨nDl.rf p3, E', 0, p1, by decide, by omega, p5⟩
theorem nMV.nt {i : Nat} {v w : Int32} {μ μ1 μ2 : gM} (h : INV μ) (m : nMV i μ) (e1 : fX11_net μ = some (v, μ1)) (e2 : fX12_net μ1 = some (w, μ2)) : nMV (i + 1) μ2 := by
  obtain ⟨M', j, mm⟩ := zHu (tX11_net h.1.1.1.weak) e1
  have x : ∀ a, 267 ≤ a → μ1 a = μ a := fun a ha => (j.2.2.2 a (Or.inr (Or.inl ha))).trans (mm a (Or.inr (Or.inr ha)))
  exact (m.cls x).net (nTape h x) e2
