/-! the reference on paper: moves of a call -/
/-- a state that may be run -/
def nLR (n cn cl cg ct c : Nat) (ξ : gM) : Prop := (∃ μ, RS 34 n False 0 cn cl cg ct μ ξ) ∧ ξ 272 4 = nI c ∧ c ≤ 99
theorem RS.lr {s n cn cl cg ct : Nat} {F : Prop} {cc : Int32} {μ ξ ξ' : gM} (h : RS s n F cc cn cl cg ct μ ξ) (h9 : ξ' 269 = ξ 269) (hx : ∀ i, i < 490 → ξ' 272 i = ξ 272 i) : RS s n False 0 cn cl cg ct μ ξ' := by
  obtain ⟨h1, h2, h3, h4, nx, h5⟩ := h
  have et : tkI ξ' = tkI ξ := by unfold tkI; rw [hx 0 (by decide)]
  exact ⟨h1.cp (fun w => w.elim) (fun _ _ _ => rfl) h9 (fun _ _ _ => rfl) hx (fun w => w.elim), h2.fr rfl rfl h9, h3.cp h9 (fun _ _ _ => rfl) hx, h4, nx, by rw [et]; exact h5.cp h3.1 (fun _ _ _ => rfl) hx⟩
theorem nLR.fr {n cn cl cg ct c : Nat} {ξ ξ' : gM} (h : nLR n cn cl cg ct c ξ) (h9 : ξ' 269 = ξ 269) (hx : ∀ i, i < 490 → ξ' 272 i = ξ 272 i) : nLR n cn cl cg ct c ξ' := by
  obtain ⟨⟨μ, r⟩, h4, c9⟩ := h
  exact ⟨⟨μ, r.lr h9 hx⟩, by rw [hx 4 (by decide)]; exact h4, c9⟩
theorem RS.efn {s n cn cl cg ct : Nat} {F : Prop} {c : Int32} {μ ξ μ' ξ' : gM} (hs : 34 ≤ s) (h : RS s n F c cn cl cg ct μ ξ) (g : SR s F c μ' ξ') (e : EF s μ ξ μ' ξ') : RS s n F c cn cl cg ct μ' ξ' := by
  obtain ⟨h1, h2, h3, h4, nx, q1, q2, q3, q4⟩ := h
  obtain ⟨f1, f2, f3, f4, f5⟩ := e
  have n20 := h3.1
  have et : tkI ξ' = tkI ξ := by unfold tkI; rw [f5]
  exact ⟨g, h2.tf hs f1 f2, h3.mv f1 f2, h4.tf f1, nx, q1, by rw [f4]; exact q2, fun k hk => by rw [atI.mv f2 (by omega), et]; exact q3 k hk, fun k h1 h2 => by rw [atI.mv f2 (by omega), et]; exact q4 k h1 h2⟩
theorem nLR.n20 {n cn cl cg ct c : Nat} {ξ : gM} (h : nLR n cn cl cg ct c ξ) : n ≤ 20 ∧ ξ 272 8 = nI n ∧ ct ≤ 24 ∧ (cn ≤ 6 ∧ cg ≤ 5) ∧ ξ 269 0 = nI cn ∧ ξ 269 2 = nI cg ∧ ξ 269 3 = nI ct ∧ ∀ g k, mem (ξ 269) g k → k < cn ∧ g < cg := by
  obtain ⟨⟨μ, r⟩, -, -⟩ := h
  obtain ⟨h1, h2, h3, -⟩ := r
  exact ⟨h3.1, h3.2.2.1, h2.1.2.2.2, ⟨h2.1.1, h2.1.2.2.1⟩, h2.2.2.1, h2.2.2.2.2.1, h2.2.2.2.2.2, fun g k m => h1.1.1.mlt h2 m⟩
theorem nLR.tell {n cn cl cg ct c g k : Nat} {v : Int32} {ξ : gM} (h : nLR n cn cl cg ct c ξ) (m : mem (ξ 269) g k) (b : 1 ≤ v.toInt ∧ v.toInt ≤ 255) : nLR n cn cl cg ct c (gUp ξ 272 (10 + (6 * g + k)) v) := by
  obtain ⟨⟨μ, r⟩, h4, c9⟩ := h
  have := m.1
  have := m.2.1
  obtain ⟨μ', -, s1, e, -⟩ := SR.tell (by decide) r.1 m b
  exact ⟨⟨μ', r.efn (by decide) s1 e⟩, by rw [zUp_slot _ (by omega)]; exact h4, c9⟩
theorem nLR.cuts {n cn cl cg ct c : Nat} {v : Int32} {ξ : gM} (h : nLR n cn cl cg ct c ξ) : nLR n cn cl cg ct c (gUp ξ 272 2 v) := by
  obtain ⟨⟨μ, r⟩, h4, c9⟩ := h
  obtain ⟨μ', -, s1, e, -⟩ := SR.cuts (v := v) (by decide) r.1
  exact ⟨⟨μ', r.efn (by decide) s1 e⟩, by rw [zUp_slot _ (by omega)]; exact h4, c9⟩
theorem nLR.down {n cn cl cg ct c k : Nat} {v : Int32} {ξ ξ' : gM} (h : nLR n cn cl cg ct c ξ) (hk : k < cn) (e : fX12_goesDown (nI k) 0 ξ = some (v, ξ')) : nLR n cn cl cg ct c ξ' ∧ tkI ξ' = tkI ξ := by
  obtain ⟨⟨μ, r⟩, h4, c9⟩ := h
  obtain ⟨v', μ', ξ1, -, e2, s1, a, b, -⟩ := pLower (y2 := 0) (by decide) r.1 r.2.1 hk (Or.inl rfl)
  rw [e] at e2
  obtain ⟨rfl, rfl⟩ := Prod.mk.inj (Option.some.inj e2)
  exact ⟨⟨⟨μ', r.efn (by decide) s1 (EF.of a b)⟩, by rw [b.2.2 4 (by omega)]; exact h4, c9⟩, by unfold tkI; rw [b.2.2 0 (by omega)]⟩
theorem nLR.up {n cn cl cg ct c k : Nat} {ξ ξ' : gM} (h : nLR n cn cl cg ct c ξ) (hk : k < cn) (dn : bt (ξ 272 1) k = false) (e : fX12_comesUp (nI k) ξ = some ξ') : nLR n cn cl cg ct c ξ' ∧ tkI ξ' = tkI ξ ∧ ∃ mv, mv ≤ 5 ∧ ξ' 267 22 = ξ 267 22 + nI mv := by
  obtain ⟨⟨μ, r⟩, h4, c9⟩ := h
  obtain ⟨hS, nc, -⟩ := id r
  obtain ⟨μ', ξ1, -, e2, s1, a, b, -⟩ := pRaise (by decide) r.1 r.2.1 hk dn rfl
  rw [e] at e2
  obtain rfl := Option.some.inj e2
  refine ⟨⟨⟨μ', r.efn (by decide) s1 (EF.of a b)⟩, by rw [b.2.2 4 (by omega)]; exact h4, c9⟩, by unfold tkI; rw [b.2.2 0 (by omega)], ?_⟩
  have bb := nc.1
  have nn : nNC (ξ 269) cn cg ct := ⟨⟨bb.1, bb.2.2.1, bb.2.2.2⟩, nc.2.2.1, nc.2.2.2.2.1, nc.2.2.2.2.2⟩
  have h7 : 0 ≤ (ξ 272 7).toInt ∧ (ξ 272 7).toInt ≤ 60 := hS.1.2.2.2.2.1
  unfold fX12_comesUp at e
  rw [zLt_eq, z32] at e
  have o1 : ∀ i, i ≠ 1 → gUp ξ 272 1 (ξ 272 1 ||| ((1 : Int32) <<< (nI k &&& 31))) 272 i = ξ 272 i := fun i hi => zUp_slot _ hi
  have oo : ∀ a, a ≠ 272 → gUp ξ 272 1 (ξ 272 1 ||| ((1 : Int32) <<< (nI k &&& 31))) a = ξ a := fun a ha => zUp_ne _ ha
  generalize gUp ξ 272 1 (ξ 272 1 ||| ((1 : Int32) <<< (nI k &&& 31))) = χ at o1 oo e
  obtain ⟨χ', mv, r1, r2, r3, -⟩ := nUp (k := k) nn hk (fun χ g e _ hg => by
    have nc' : NC μ χ cn cl cg ct := by
      obtain ⟨a, b, c1, c2, c3, c4⟩ := nc
      exact ⟨a, b, by rw [e]; exact c1, by rw [e]; exact c2, by rw [e]; exact c3, by rw [e]; exact c4⟩
    have := mMemb (ξ := χ) nc' hg hk
    rw [e] at this
    exact this) 100000 0 χ (Nat.zero_le _) (by omega) (oo 269 (by decide)) (by rw [o1 7 (by decide)]; exact h7)
    (fun g' _ hg' => by
      rw [o1 _ (by omega)]
      rcases (hS.2.1 g' hg').how hg' (show k < 6 by omega) with ⟨q, -⟩ | ⟨-, q, -⟩
      · exact q
      · rw [dn] at q; exact absurd q (by decide))
    (fun g' hg' hb => by
      have e : pvm χ g' k = pvm ξ g' k := by unfold pvm; rw [oo 269 (by decide), o1 2 (by decide), o1 _ (by omega)]
      rw [e]
      exact (hS.1.pat (g := g') (k := k) ⟨by omega, by omega, hb⟩).2.1)
  rw [e] at r1
  obtain rfl := Option.some.inj r1
  exact ⟨mv, by omega, by rw [r2.1, oo 267 (by decide)]⟩
/-- a run so far -/
def nAcc (n cn cl cg ct c : Nat) (ξ0 : gM) (K : Nat) (ξ : gM) : Prop := nLR n cn cl cg ct c ξ ∧ tkI ξ = tkI ξ0 + (K : Int) ∧ ∃ mv : Nat, ξ 267 22 = ξ0 267 22 + nI mv ∧ (mv : Int) + nCs ξ0 - nCs ξ ≤ 60 * (K : Int) + (jE ct : Nat) * ((nRem ξ0 n : Nat) - (nRem ξ n : Nat))
theorem nAcc.rf {n cn cl cg ct c : Nat} {ξ : gM} (h : nLR n cn cl cg ct c ξ) : nAcc n cn cl cg ct c ξ 0 ξ := ⟨h, by omega, 0, by rw [show nI 0 = 0 from rfl, Int32.add_zero], by rw [Int.sub_self, Int.mul_zero]; omega⟩
theorem nCs_fr {ξ ξ' : gM} (h9 : ξ' 269 = ξ 269) (hx : ∀ i, i < 490 → ξ' 272 i = ξ 272 i) : nCs ξ' = nCs ξ := by
  have g1 : ∀ g, g < 5 → nCg ξ' g = nCg ξ g := fun g hg => nCg_cg (fun j hj => by
    rw [h9, hx 2 (by decide), hx (10 + (6 * g + j)) (by omega), hx (40 + (6 * g + j)) (by omega), hx (70 + (6 * g + j)) (by omega)]
    exact ⟨rfl, rfl, rfl⟩)
  unfold nCs
  rw [g1 0 (by decide), g1 1 (by decide), g1 2 (by decide), g1 3 (by decide), g1 4 (by decide)]
theorem nRem_fr {n : Nat} {ξ ξ' : gM} (hn : n ≤ 20) (hx : ∀ i, i < 490 → ξ' 272 i = ξ 272 i) : nRem ξ' n = nRem ξ n := lq_rw_cg (fun j hj => by unfold tkI atI; rw [hx 0 (by decide), hx (145 + 5 * j) (by omega)])
theorem nAcc.o {n cn cl cg ct c K : Nat} {ξ0 ξ ξ' : gM} (h : nAcc n cn cl cg ct c ξ0 K ξ) (h9 : ξ' 269 = ξ 269) (hx : ∀ i, i < 490 → ξ' 272 i = ξ 272 i) (h2 : ξ' 267 22 = ξ 267 22) : nAcc n cn cl cg ct c ξ0 K ξ' := by
  obtain ⟨h1, h3, mv, h4, h5⟩ := h
  exact ⟨h1.fr h9 hx, by unfold tkI at *; rw [hx 0 (by decide)]; exact h3, mv, h2.trans h4, by rw [nCs_fr h9 hx, nRem_fr h1.n20.1 hx]; exact h5⟩
theorem nAcc.tick (L : lq_all) {n cn cl cg ct c K : Nat} {ξ0 ξ ξ' : gM} (h : nAcc n cn cl cg ct c ξ0 K ξ) (tb : 0 ≤ tkI ξ0 ∧ tkI ξ0 ≤ 9999) (hK : K ≤ 1000) (e : fX12_tickGoes ξ = some ξ') : nAcc n cn cl cg ct c ξ0 (K + 1) ξ' := by
  obtain ⟨⟨⟨μ, r⟩, h4, c9⟩, h3, mv, h5, h6⟩ := h
  obtain ⟨x, hx, e9⟩ : ∃ x, x < 2147483648 ∧ ξ 272 9 = nI x := by
    have n5 := r.1.1.2.1.2.2.2.2.2.2
    refine ⟨(ξ 272 9).toInt.toNat, ?_, nI_of' (by omega)⟩
    have := Int32.toInt_lt (ξ 272 9)
    omega
  obtain ⟨μ', ξ1, m1, Q, p, x', e1, r1, f1, k1, v1, -, -, -, -, w1⟩ := nTick L (by decide) r (by omega) h4 c9 (T := 0) (Q := 0) (p := 0) ⟨by decide, by decide, x, hx, rfl⟩ hx e9
  rw [e] at e1
  obtain rfl := Option.some.inj e1
  refine ⟨⟨⟨μ', r1⟩, by rw [f1.2.2 4 (by omega)]; exact h4, c9⟩, by omega, mv + m1, by rw [v1, h5, Int32.add_assoc, nI_add], ?_⟩
  have j : (jE ct : Int) * ((nRem ξ0 n : Nat) - (nRem ξ' n : Nat)) = (jE ct : Int) * ((nRem ξ0 n : Nat) - (nRem ξ n : Nat)) + (jE ct : Int) * ((nRem ξ n : Nat) - (nRem ξ' n : Nat)) := by
    rw [← Int.mul_add]
    congr 1
    omega
  rw [j]
  generalize (jE ct : Int) * ((nRem ξ0 n : Nat) - (nRem ξ n : Nat)) = J1 at h6 ⊢
  generalize (jE ct : Int) * ((nRem ξ n : Nat) - (nRem ξ' n : Nat)) = J2 at w1 ⊢
  omega
theorem jE_b (t : Nat) : jE t ≤ 55 := by unfold jE; omega
theorem nAcc.fin {n cn cl cg ct c K : Nat} {ξ0 ξ : gM} (h : nAcc n cn cl cg ct c ξ0 K ξ) : ∃ mv : Nat, ξ 267 22 = ξ0 267 22 + nI mv ∧ mv ≤ 60 * K + 1155 := by
  obtain ⟨h1, h3, mv, h4, h5⟩ := h
  refine ⟨mv, h4, ?_⟩
  have b1 := nCs_b ξ0
  have b2 := nCs_b ξ
  have n20 := h1.n20.1
  have rn : nRem ξ0 n ≤ n := lq_rw_le n
  have j : (jE ct : Int) * ((nRem ξ0 n : Nat) - (nRem ξ n : Nat)) ≤ (jE ct : Int) * 20 := Int.mul_le_mul_of_nonneg_left (by omega) (by omega)
  have := jE_b ct
  omega
theorem nAcc.mk (L : lq_all) {n cn cl cg ct c : Nat} {ξ0 : gM} (tb : 0 ≤ tkI ξ0 ∧ tkI ξ0 ≤ 9999) : ∀ (q K : Nat) (ξ ξ' : gM), nAcc n cn cl cg ct c ξ0 K ξ → K + q ≤ 1000 → mTk q ξ = some ξ' → nAcc n cn cl cg ct c ξ0 (K + q) ξ' := by
  intro q
  induction q with
  | zero =>
    intro K ξ ξ' h _ e
    rw [mTk] at e
    obtain rfl := Option.some.inj e
    exact h
  | succ q ih =>
    intro K ξ ξ' h hK e
    rw [mTk] at e
    obtain ⟨ξ1, e1, e2⟩ := bdI e
    have := ih (K + 1) ξ1 ξ' (h.tick L tb (by omega) e1) (by omega) e2
    rw [show K + (q + 1) = K + 1 + q by omega]
    exact this
theorem nGoes {N : Nat} {ξ : gM} (hN : N ≤ 900) : fX12_goes (nI N) ξ = mTk N ξ := mGoesL N 100000 N 0 ξ hN (by omega) (by omega)
theorem nFromP {v x : Int32} {ξ ζ : gM} (e : fX12_fromPaper v ξ = some (x, ζ)) : x = v ∧ (∀ a, a ≠ 272 → ζ a = ξ a) ∧ ∀ i, i < 490 → ζ 272 i = ξ 273 (6860 + i) := by
  obtain ⟨ξ1, q1, q2, q3⟩ := mFromP (v := v) (ξ := ξ)
  rw [e] at q1
  obtain ⟨rfl, rfl⟩ := Prod.mk.inj (Option.some.inj q1)
  exact ⟨rfl, q2, q3⟩
theorem nToP {ξ ζ : gM} (e : fX12_toPaper ξ = some ζ) : (∀ a, a ≠ 273 → ζ a = ξ a) ∧ ∀ i, i < 490 → ζ 273 (6860 + i) = ξ 272 i := by
  obtain ⟨ξ1, q1, q2, q3⟩ := mToP (ξ := ξ)
  rw [e] at q1
  obtain rfl := Option.some.inj q1
  exact ⟨q2, q3⟩
theorem nTakP {ξ ζ : gM} (e : fX12_takesFrom 14 ξ = some ζ) : (∀ a, a ≠ 272 → ζ a = ξ a) ∧ ∀ i, i < 490 → ζ 272 i = ξ 273 (6860 + i) := by
  obtain ⟨ξ1, q1, q2, q3⟩ := mTakeP (ξ := ξ)
  rw [e] at q1
  obtain rfl := Option.some.inj q1
  exact ⟨q2, q3⟩
theorem nIsI {a : Int32} {b c : Int64} {y z : Int} {v : Int32} {μ : gM} (hb : b.toInt = y) (hc : c.toInt = z) (e : fX12_isIn a.toInt64 b c μ = some v) (nz : v ≠ 0) : y ≤ a.toInt ∧ a.toInt ≤ z := by
  rw [mIn32 μ hb hc] at e
  obtain rfl := Option.some.inj e
  by_cases w : y ≤ a.toInt ∧ a.toInt ≤ z
  · exact w
  · rw [if_neg w] at nz; exact absurd rfl nz
/-- what a call makes in moves -/
def nDl (B : Nat) (ξ ζ : gM) : Prop := ∃ d : Nat, d ≤ B ∧ ζ 267 22 = ξ 267 22 + nI d
theorem nDl.rf {B : Nat} {ξ ζ : gM} (h : ζ 267 22 = ξ 267 22) : nDl B ξ ζ := ⟨0, by omega, by rw [h, show nI 0 = 0 from rfl, Int32.add_zero]⟩
theorem nDl.tr {A B : Nat} {ξ ζ χ : gM} (h : nDl A ξ ζ) (g : nDl B ζ χ) : nDl (A + B) ξ χ := by
  obtain ⟨d, h1, h2⟩ := h
  obtain ⟨e, g1, g2⟩ := g
  exact ⟨d + e, by omega, by rw [g2, h2, Int32.add_assoc, nI_add]⟩
theorem nDl.le {A B : Nat} {ξ ζ : gM} (h : nDl A ξ ζ) (l : A ≤ B) : nDl B ξ ζ := by
  obtain ⟨d, h1, h2⟩ := h
  exact ⟨d, by omega, h2⟩
theorem nAcc.dl {n cn cl cg ct c K : Nat} {ξ0 ξ : gM} (h : nAcc n cn cl cg ct c ξ0 K ξ) : nDl (60 * K + 1155) ξ0 ξ := by
  obtain ⟨mv, h1, h2⟩ := h.fin
  exact ⟨mv, h2, h1⟩
/-- a live start -/
def nLS (n cn cl cg ct c : Nat) (ξ : gM) : Prop := nLR n cn cl cg ct c ξ ∧ 0 ≤ tkI ξ ∧ tkI ξ ≤ 9999
theorem nLS.fr {n cn cl cg ct c : Nat} {ξ ξ' : gM} (h : nLS n cn cl cg ct c ξ) (h9 : ξ' 269 = ξ 269) (hx : ∀ i, i < 490 → ξ' 272 i = ξ 272 i) : nLS n cn cl cg ct c ξ' := ⟨h.1.fr h9 hx, by unfold tkI; rw [hx 0 (by decide)]; exact h.2⟩
theorem nLS.u0 {n cn cl cg ct c i : Nat} {v : Int32} {ξ : gM} (h : nLS n cn cl cg ct c ξ) : nLS n cn cl cg ct c (gUp ξ 267 i v) := h.fr (zUp_ne _ (by decide)) (fun i _ => by rw [zUp_ne _ (by decide)])
theorem nLS.run (L : lq_all) {n cn cl cg ct c N : Nat} {a : Int32} {ξ ξ' : gM} (h : nLS n cn cl cg ct c ξ) (ha : 0 ≤ a.toInt ∧ a.toInt ≤ 500) (e : fX12_goes a ξ = some ξ') : nDl 31155 ξ ξ' := by
  obtain ⟨N, n1, -, rfl⟩ := spanG (M := 500) (by decide) (by decide) ha
  rw [nGoes (by omega)] at e
  have := (nAcc.mk L h.2 N 0 ξ ξ' (nAcc.rf h.1) (by omega) e).dl
  exact this.le (by omega)
