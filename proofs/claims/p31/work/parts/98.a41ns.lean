/-! acts: banks, moves -/
def nB1 (E : Nat) (x y : Int32) : Prop := (0 ≤ x.toInt ∧ x.toInt ≤ 99) ∧ y.toInt ≤ (E : Int)
def nBK (E : Nat) (ξ : gM) : Prop := nB1 E (ξ 272 4) (ξ 272 8) ∧ ∀ b, b < 14 → nB1 E (ξ 273 (490 * b + 4)) (ξ 273 (490 * b + 8))
theorem nB1.le {E E' : Nat} {x y : Int32} (h : nB1 E x y) (l : E ≤ E') : nB1 E' x y := ⟨h.1, by have := h.2; omega⟩
theorem nBK.le {E E' : Nat} {ξ : gM} (h : nBK E ξ) (l : E ≤ E') : nBK E' ξ := ⟨h.1.le l, fun b hb => (h.2 b hb).le l⟩
theorem nBK.fr {E : Nat} {ξ ζ : gM} (h : nBK E ξ) (h2 : ∀ i, i = 4 ∨ i = 8 → ζ 272 i = ξ 272 i) (h3 : ∀ i, i < 6860 → ζ 273 i = ξ 273 i) : nBK E ζ := by
  refine ⟨by rw [h2 4 (Or.inl rfl), h2 8 (Or.inr rfl)]; exact h.1, fun b hb => ?_⟩
  rw [h3 _ (by omega), h3 _ (by omega)]
  exact h.2 b hb
theorem nBK.w {E : Nat} {ξ ζ : gM} (h : nBK E ξ) (h2 : nB1 E (ζ 272 4) (ζ 272 8)) (h3 : ζ 273 = ξ 273) : nBK E ζ := ⟨h2, fun b hb => by rw [h3]; exact h.2 b hb⟩
/-- an act's state saved -/
theorem nKp {cnt E : Nat} {ξ ζ : gM} (h20 : ξ 267 20 = nI cnt) (hc : cnt ≤ 12) (e : fX12_keepsAct ξ = some ζ) (b : nBK E ξ) : nBK E ζ ∧ (∀ a, a ≠ 273 → a ≠ 267 → ζ a = ξ a) ∧ ∀ i, i ≠ 20 → ζ 267 i = ξ 267 i := by
  by_cases c12 : cnt = 12
  · obtain ⟨c', d, ξ', e', alt, f1, f2, f3, f4, f5, f6⟩ := sKeep h20 hc
    rw [e] at e'
    obtain rfl := Option.some.inj e'
    obtain ⟨-, rfl, rfl⟩ : cnt = 12 ∧ c' = 12 ∧ d = 1 := by omega
    have w : ζ 272 = ξ 272 := f1 272 (by decide) (by decide)
    refine ⟨⟨by rw [w]; exact b.1, fun k hk => ?_⟩, f1, f2⟩
    rcases Nat.lt_or_ge k 11 with q | q
    · rw [f5 k 4 (by omega) (by decide), f5 k 8 (by omega) (by decide)]
      exact b.2 (k + 1) (by omega)
    · by_cases k11 : k = 11
      · subst k11
        rw [f4 4 (by decide), f4 8 (by decide)]
        exact b.1
      · rw [f6 k 4 (by omega) (by decide), f6 k 8 (by omega) (by decide)]
        exact b.2 k hk
  · obtain ⟨ξ', e', f1, f2, f3, f4⟩ := sKeep52 h20 (by omega)
    have : fX12_keepsAct ξ = fX12_keepsAct_n52 ξ := by
      unfold fX12_keepsAct
      rw [if_neg (show ¬ ξ 267 20 = 12 by rw [h20]; exact fun w => c12 (nI_inj (a := cnt) (b := 12) (by omega) (by decide) w))]
    rw [this, e'] at e
    obtain rfl := Option.some.inj e
    have w : ξ' 272 = ξ 272 := f1 272 (by decide) (by decide)
    refine ⟨⟨by rw [w]; exact b.1, fun k hk => ?_⟩, f1, f2⟩
    rw [f4, f4]
    by_cases q : k = cnt
    · subst q
      rw [if_pos (by omega), if_pos (by omega), show 490 * k + 4 - 490 * k = 4 by omega, show 490 * k + 8 - 490 * k = 8 by omega]
      exact b.1
    · rw [if_neg (by omega), if_neg (by omega)]
      exact b.2 k hk
theorem nLS.kp {n cn cl cg ct c : Nat} {ξ ζ : gM} (h : nLS n cn cl cg ct c ξ) (f : ∀ a, a ≠ 273 → a ≠ 267 → ζ a = ξ a) : nLS n cn cl cg ct c ζ := h.fr (f 269 (by decide) (by decide)) (fun i _ => by rw [f 272 (by decide) (by decide)])
theorem nBK.u0 {E i : Nat} {v : Int32} {ξ : gM} (h : nBK E ξ) : nBK E (gUp ξ 267 i v) := h.fr (fun _ _ => by rw [zUp_ne _ (by decide)]) (fun _ _ => by rw [zUp_ne _ (by decide)])
/-- what an act leaves -/
def nAE (E : Nat) (ξ ζ : gM) : Prop := nDl 700000 ξ ζ ∧ nBK E ζ
theorem nAE.z {E : Nat} {v x : Int32} {ξ ζ : gM} (b : nBK E ξ) (e : some (x, gUp ξ 267 0 0) = some (v, ζ)) : nAE E ξ ζ := by
  obtain ⟨rfl, rfl⟩ := Prod.mk.inj (Option.some.inj e)
  exact ⟨nDl.rf (zUp_slot _ (by decide)), b.u0⟩
theorem nLR.b1 {n cn cl cg ct c E : Nat} {ξ : gM} (h : nLR n cn cl cg ct c ξ) (hE : n ≤ E) : nB1 E (ξ 272 4) (ξ 272 8) := by
  obtain ⟨n20, e8, -⟩ := h.n20
  obtain ⟨-, e4, c9⟩ := h
  rw [e4, e8]
  refine ⟨?_, ?_⟩
  · rw [tN (by omega)]; omega
  · rw [tN (by omega)]; omega
theorem na_ticks (L : lq_all) {n cn cl cg ct c cnt E : Nat} {a1 v : Int32} {ξ ζ : gM} (h : nLS n cn cl cg ct c ξ) (h20 : ξ 267 20 = nI cnt) (hc : cnt ≤ 12) (b : nBK E ξ) (hE : n ≤ E) (e : fX12_ticks a1 ξ = some (v, ζ)) : nAE E ξ ζ := by
  unfold fX12_ticks at e
  rw [zLt_eq] at e
  split at e
  · exact nAE.z b e
  · obtain ⟨x2, i2, e2⟩ := bdI e
    by_cases c2 : x2 = 0
    · rw [if_pos c2] at e2; exact nAE.z b e2
    · rw [if_neg c2] at e2
      split at e2
      · obtain ⟨μ3, p3, e3⟩ := bdI e2
        obtain ⟨b3, f1, f2⟩ := nKp (by rw [zUp_slot _ (by decide)]; exact h20) hc p3 b.u0
        have h3 := (h.u0 (i := 0) (v := 0)).kp f1
        have bb := nIsI (y := 1) (z := 500) rfl rfl i2 c2
        obtain ⟨N, n1, -, rfl⟩ := spanG (M := 500) (by decide) (by decide) bb
        have ac := nTkI L h3.2 n1 100000 0 v μ3 ζ (Nat.zero_le _) (nAcc.rf h3.1) e3
        have d := ac.dl
        refine ⟨?_, b3.w (ac.1.b1 hE) (z3X12_ticks_l47 (m := μ3) _ _ _ _ rfl _ e3)⟩
        obtain ⟨q, q1, q2⟩ := d
        exact ⟨q, by omega, by rw [q2, f2 22 (by decide), zUp_slot _ (by decide)]⟩
      · exact nAE.z b e2
theorem na_up {n cn cl cg ct c cnt E : Nat} {a1 v : Int32} {ξ ζ : gM} (h : nLS n cn cl cg ct c ξ) (h20 : ξ 267 20 = nI cnt) (hc : cnt ≤ 12) (b : nBK E ξ) (hE : n ≤ E) (e : fX12_up a1 ξ = some (v, ζ)) : nAE E ξ ζ := by
  unfold fX12_up at e
  rw [zLt_eq] at e
  obtain ⟨x2, i2, e2⟩ := bdI e
  by_cases c2 : x2 = 0
  · rw [if_pos c2] at e2; exact nAE.z b e2
  · rw [if_neg c2] at e2
    have h1 := h.u0 (i := 0) (v := 0)
    obtain ⟨k, hk, rfl⟩ := h1.1.gate i2 c2
    have c6 := h1.1.n20.2.2.2.1.1
    rw [mUp (by omega), zBd_some] at e2
    by_cases u : bt (gUp ξ 267 0 0 272 1) k = true
    · rw [if_pos u, if_neg one_n0] at e2
      exact nAE.z b e2
    · rw [if_neg u, if_pos rfl] at e2
      obtain ⟨μ4, p4, e4⟩ := bdI e2
      obtain ⟨μ5, p5, e5⟩ := bdI e4
      obtain ⟨rfl, rfl⟩ := Prod.mk.inj (Option.some.inj e5)
      obtain ⟨b3, f1, f2⟩ := nKp (by rw [zUp_slot _ (by decide)]; exact h20) hc p4 b.u0
      have h4 := h1.kp f1
      obtain ⟨r5, -, mv, m5, ev⟩ := h4.1.up hk (by rw [f1 272 (by decide) (by decide)]; exact Bool.eq_false_iff.mpr u) p5
      exact ⟨⟨mv, by omega, by rw [ev, f2 22 (by decide), zUp_slot _ (by decide)]⟩, b3.w (r5.b1 hE) (z3X12_comesUp (m := μ4) rfl _ p5)⟩
theorem na_down {n cn cl cg ct c cnt E : Nat} {a1 a2 v : Int32} {ξ ζ : gM} (h : nLS n cn cl cg ct c ξ) (h20 : ξ 267 20 = nI cnt) (hc : cnt ≤ 12) (b : nBK E ξ) (h2 : a2 = 0 ∨ a2 = 1) (e : fX12_down a1 a2 ξ = some (v, ζ)) : nAE E ξ ζ := by
  have ms : ζ 267 22 = ξ 267 22 := uX12_down (m := ξ) rfl _ e
  unfold fX12_down at e
  rw [zLt_eq] at e
  obtain ⟨x2, i2, e2⟩ := bdI e
  by_cases c2 : x2 = 0
  · rw [if_pos c2] at e2; exact nAE.z b e2
  · rw [if_neg c2] at e2
    have h1 := h.u0 (i := 0) (v := 0)
    obtain ⟨k, hk, rfl⟩ := h1.1.gate i2 c2
    obtain ⟨x3, -, e3⟩ := bdI e2
    split at e3
    · exact nAE.z b e3
    · obtain ⟨μ4, p4, e4⟩ := bdI e3
      obtain ⟨x5, μ6, p6, e6⟩ := bpI e4
      obtain ⟨rfl, rfl⟩ := Prod.mk.inj (Option.some.inj e6)
      obtain ⟨b3, f1, f2⟩ := nKp (by rw [zUp_slot _ (by decide)]; exact h20) hc p4 b.u0
      have h4 := h1.kp f1
      obtain ⟨⟨μg, r⟩, -⟩ := h4.1
      obtain ⟨v', μ', ξ1, -, q2, -, -, ar, -⟩ := pLower (y2 := a2) (by decide) r.1 r.2.1 hk h2
      rw [p6] at q2
      obtain ⟨rfl, rfl⟩ := Prod.mk.inj (Option.some.inj q2)
      exact ⟨nDl.rf ms, b3.fr (fun i hi => ar.2.2 i (by omega)) (fun i _ => by rw [ar.1 273 (by decide) (by decide) (by decide)])⟩
theorem na_cut {cnt E : Nat} {a1 a2 v : Int32} {ξ ζ : gM} (h20 : ξ 267 20 = nI cnt) (hc : cnt ≤ 12) (b : nBK E ξ) (e : fX12_cut a1 a2 ξ = some (v, ζ)) : nAE E ξ ζ := by
  have ms : ζ 267 22 = ξ 267 22 := uX12_cut (m := ξ) rfl _ e
  unfold fX12_cut at e
  rw [zLt_eq] at e
  obtain ⟨x2, -, e2⟩ := bdI e
  split at e2
  · exact nAE.z b e2
  · obtain ⟨x3, -, e3⟩ := bdI e2
    split at e3
    · exact nAE.z b e3
    · obtain ⟨μ4, p4, e4⟩ := bdI e3
      rw [zLt_eq] at e4
      obtain ⟨rfl, rfl⟩ := Prod.mk.inj (Option.some.inj e4)
      obtain ⟨b3, f1, f2⟩ := nKp (by rw [zUp_slot _ (by decide)]; exact h20) hc p4 b.u0
      exact ⟨nDl.rf ms, b3.fr (fun i hi => zUp_slot _ (by omega)) (fun i _ => by rw [zUp_ne _ (by decide)])⟩
theorem na_split {cnt E : Nat} {a1 v : Int32} {ξ ζ : gM} (h20 : ξ 267 20 = nI cnt) (hc : cnt ≤ 12) (b : nBK E ξ) (e : fX12_split a1 ξ = some (v, ζ)) : nAE E ξ ζ := by
  have ms : ζ 267 22 = ξ 267 22 := uX12_split (m := ξ) rfl _ e
  unfold fX12_split at e
  rw [zLt_eq] at e
  split at e
  · exact nAE.z b e
  · obtain ⟨x2, -, e2⟩ := bdI e
    obtain ⟨x3, -, e3⟩ := bdI e2
    split at e3
    · exact nAE.z b e3
    · split at e3
      · exact nAE.z b e3
      · obtain ⟨μ4, p4, e4⟩ := bdI e3
        rw [zLt_eq] at e4
        obtain ⟨rfl, rfl⟩ := Prod.mk.inj (Option.some.inj e4)
        obtain ⟨b3, f1, f2⟩ := nKp (by rw [zUp_slot _ (by decide)]; exact h20) hc p4 b.u0
        exact ⟨nDl.rf ms, b3.fr (fun i hi => zUp_slot _ (by omega)) (fun i _ => by rw [zUp_ne _ (by decide)])⟩
theorem na_word {n cn cl cg ct c cnt E : Nat} {a1 a2 a3 v : Int32} {ξ ζ : gM} (h : nLS n cn cl cg ct c ξ) (h20 : ξ 267 20 = nI cnt) (hc : cnt ≤ 12) (b : nBK E ξ) (e : fX12_word a1 a2 a3 ξ = some (v, ζ)) : nAE E ξ ζ := by
  have ms : ζ 267 22 = ξ 267 22 := uX12_word (m := ξ) rfl _ e
  unfold fX12_word at e
  rw [zLt_eq] at e
  obtain ⟨x2, i2, e2⟩ := bdI e
  by_cases c2 : x2 = 0
  · rw [if_pos c2] at e2; exact nAE.z b e2
  · rw [if_neg c2] at e2
    obtain ⟨g, k, m, rfl, rfl⟩ := (h.u0 (i := 0) (v := 0)).1.memb i2 c2
    have hg := m.1
    have hk := m.2.1
    obtain ⟨x3, -, e3⟩ := bdI e2
    split at e3
    · exact nAE.z b e3
    · obtain ⟨μ4, p4, e4⟩ := bdI e3
      obtain ⟨b3, f1, f2⟩ := nKp (by rw [zUp_slot _ (by decide)]; exact h20) hc p4 b.u0
      rw [mOf _ hg hk, zBd_some] at e4
      have e4 := ckI e4
      rw [zLt_eq, zBd_some] at e4
      have e4 := ckI e4
      rw [zLt_eq] at e4
      obtain ⟨rfl, rfl⟩ := Prod.mk.inj (Option.some.inj e4)
      have j10 : ((10 : Int32) + nI (6 * g + k)).toNatClampNeg = 10 + (6 * g + k) := by rw [show (10 : Int32) = nI 10 from rfl, nI_add, nI_clamp (by omega)]
      rw [j10] at ms ⊢
      exact ⟨nDl.rf ms, b3.fr (fun i hi => zUp_slot _ (by omega)) (fun i _ => by rw [zUp_ne _ (by decide)])⟩
theorem na_chance {cnt E : Nat} {a1 a2 v : Int32} {ξ ζ : gM} (h20 : ξ 267 20 = nI cnt) (hc : cnt ≤ 12) (b : nBK E ξ) (e : fX12_chance a1 a2 ξ = some (v, ζ)) : nAE E ξ ζ := by
  have ms : ζ 267 22 = ξ 267 22 := uX12_chance (m := ξ) rfl _ e
  unfold fX12_chance at e
  rw [zLt_eq] at e
  split at e
  · exact nAE.z b e
  · obtain ⟨x2, i2, e2⟩ := bdI e
    by_cases c2 : x2 = 0
    · rw [if_pos c2] at e2; exact nAE.z b e2
    · rw [if_neg c2] at e2
      split at e2
      · obtain ⟨μ3, p3, e3⟩ := bdI e2
        rw [zLt_eq, zLt_eq] at e3
        obtain ⟨rfl, rfl⟩ := Prod.mk.inj (Option.some.inj e3)
        obtain ⟨b3, f1, f2⟩ := nKp (by rw [zUp_slot _ (by decide)]; exact h20) hc p3 b.u0
        have bb := nIsI (y := 0) (z := 99) rfl rfl i2 c2
        refine ⟨nDl.rf ms, b3.w ⟨?_, ?_⟩ (by rw [zUp_ne _ (by decide), zUp_ne _ (by decide)])⟩
        · rw [zUp_slot _ (by decide), zUp_same]; exact bb
        · rw [zUp_slot _ (by decide), zUp_slot _ (by decide)]; exact b3.1.2
      · exact nAE.z b e2
theorem na_undo {cnt E : Nat} {v : Int32} {ξ ζ : gM} (h20 : ξ 267 20 = nI cnt) (hc : cnt ≤ 12) (b : nBK E ξ) (e : fX12_undo ξ = some (v, ζ)) : nAE E ξ ζ := by
  have ms : ζ 267 22 = ξ 267 22 := uX12_undo (m := ξ) rfl _ e
  unfold fX12_undo at e
  rw [zLt_eq] at e
  split at e
  · exact nAE.z b e
  · rename_i c15
    have h20' : gUp ξ 267 0 0 267 20 = nI cnt := by rw [zUp_slot _ (by decide)]; exact h20
    rw [h20'] at e
    by_cases cz : nI cnt = 0
    · rw [if_pos cz] at e
      exact nAE.z b e
    · rw [if_neg cz, zLt_eq] at e
      have c1 : 1 ≤ cnt := by
        rcases Nat.eq_zero_or_pos cnt with z | z
        · exact absurd (by rw [z]; rfl) cz
        · exact z
      have e20 : (gUp (gUp ξ 267 0 0) 267 20 (nI cnt - 1) 267 20).toInt = ((cnt - 1 : Nat) : Int) := by
        rw [zUp_same, iS (tN (m := cnt) (by omega)) (iL (1) (1) rfl) (by omega) (by omega)]; omega
      obtain ⟨μ3, p3, e3⟩ := bdI e
      obtain ⟨rfl, rfl⟩ := Prod.mk.inj (Option.some.inj e3)
      obtain ⟨f1, f2⟩ := zHu (sX12_takesFrom (b := cnt - 1) e20 (by omega)) p3
      have b3 : ∀ k, k < 14 → nB1 E (ξ 273 (490 * k + 4)) (ξ 273 (490 * k + 8)) := b.2
      refine ⟨nDl.rf ms, ?_, fun k hk => ?_⟩
      · rw [f2, f2, if_pos (by omega), if_pos (by omega), zUp_ne _ (by decide), zUp_ne _ (by decide)]
        exact b3 _ (by omega)
      · rw [f1 273 (by decide), zUp_ne _ (by decide), zUp_ne _ (by decide)]
        exact b3 k hk
theorem na_keep {E : Nat} {a1 v : Int32} {ξ ζ : gM} (b : nBK E ξ) (e : fX12_keep a1 ξ = some (v, ζ)) : nAE E ξ ζ := by
  have ms : ζ 267 22 = ξ 267 22 := uX12_keep (m := ξ) rfl _ e
  unfold fX12_keep at e
  rw [zLt_eq] at e
  obtain ⟨x2, i2, e2⟩ := bdI e
  by_cases c2 : x2 = 0
  · rw [if_pos c2] at e2; exact nAE.z b e2
  · rw [if_neg c2] at e2
    split at e2
    · exact nAE.z b e2
    · obtain ⟨μ3, p3, e3⟩ := bdI e2
      have e3 := ckI e3
      rw [zLt_eq] at e3
      obtain ⟨rfl, rfl⟩ := Prod.mk.inj (Option.some.inj e3)
      have bb := nIsI (y := 0) (z := 1) rfl rfl i2 c2
      obtain ⟨k, hk, -, rfl⟩ := spanG (M := 1) (by decide) (by decide) bb
      have e12 : ((12 : Int32) + nI k).toInt = ((12 + k : Nat) : Int) := by rw [show (12 : Int32) = nI 12 from rfl, nI_add, tN (by omega)]
      obtain ⟨f1, f2⟩ := zHu (sX12_putsTo (b := 12 + k) e12 (by omega)) p3
      have w : μ3 272 = ξ 272 := by rw [f1 272 (by decide), zUp_ne _ (by decide)]
      have u3 : ∀ i, μ3 273 i = if 490 * (12 + k) ≤ i ∧ i < 490 * (12 + k) + 490 then ξ 272 (i - 490 * (12 + k)) else ξ 273 i := fun i => by rw [f2, zUp_ne _ (by decide), zUp_ne _ (by decide)]
      refine ⟨nDl.rf ms, ?_, fun j hj => ?_⟩
      · rw [zUp_ne _ (by decide), w]; exact b.1
      · rw [zUp_ne _ (by decide), u3, u3]
        by_cases q : j = 12 + k
        · subst q
          rw [if_pos (by omega), if_pos (by omega), show 490 * (12 + k) + 4 - 490 * (12 + k) = 4 by omega, show 490 * (12 + k) + 8 - 490 * (12 + k) = 8 by omega]
          exact b.1
        · rw [if_neg (by omega), if_neg (by omega)]
          exact b.2 j hj
theorem na_back {E : Nat} {a1 v : Int32} {ξ ζ : gM} (b : nBK E ξ) (e : fX12_back a1 ξ = some (v, ζ)) : nAE E ξ ζ := by
  have ms : ζ 267 22 = ξ 267 22 := uX12_back (m := ξ) rfl _ e
  unfold fX12_back at e
  rw [zLt_eq] at e
  obtain ⟨x2, i2, e2⟩ := bdI e
  by_cases c2 : x2 = 0
  · rw [if_pos c2] at e2; exact nAE.z b e2
  · rw [if_neg c2] at e2
    split at e2
    · exact nAE.z b e2
    · have e2 := ckI e2
      split at e2
      · exact nAE.z b e2
      · obtain ⟨μ3, p3, e3⟩ := bdI e2
        rw [zLt_eq] at e3
        obtain ⟨rfl, rfl⟩ := Prod.mk.inj (Option.some.inj e3)
        have bb := nIsI (y := 0) (z := 1) rfl rfl i2 c2
        obtain ⟨k, hk, -, rfl⟩ := spanG (M := 1) (by decide) (by decide) bb
        have e12 : ((12 : Int32) + nI k).toInt = ((12 + k : Nat) : Int) := by rw [show (12 : Int32) = nI 12 from rfl, nI_add, tN (by omega)]
        obtain ⟨f1, f2⟩ := zHu (sX12_takesFrom (b := 12 + k) e12 (by omega)) p3
        have b3 : ∀ k, k < 14 → nB1 E (ξ 273 (490 * k + 4)) (ξ 273 (490 * k + 8)) := b.2
        refine ⟨nDl.rf ms, ?_, fun j hj => ?_⟩
        · rw [zUp_ne _ (by decide), f2, f2, if_pos (by omega), if_pos (by omega), zUp_ne _ (by decide)]
          exact b3 _ (by omega)
        · rw [zUp_ne _ (by decide), f1 273 (by decide), zUp_ne _ (by decide)]
          exact b3 j hj
