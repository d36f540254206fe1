/-! ticks: moves, perfect turns in a row -/
def lq_en (c : Nat) : Nat → Nat → Nat → Prop
  | 0, y, x => x = y
  | p + 1, y, x => ∃ x1 s, lq_en c p y x1 ∧ lq_T c s x1 ∧ x = lq_i (5 * s) x1
theorem lq_en_ch {c y : Nat} : ∀ (p m : Nat) {x : Nat}, lq_en c p y x → lq_ch c m x → lq_ch c (p + m) y := by
  intro p
  induction p with
  | zero =>
    intro m x h w
    have h : x = y := h
    subst h
    rw [Nat.zero_add]
    exact w
  | succ p ih =>
    intro m x h w
    obtain ⟨x1, s, h1, h2, h3⟩ := h
    subst h3
    rw [show p + 1 + m = p + (m + 1) by omega]
    exact ih (m + 1) h1 ⟨s, h2, w⟩
/-- turns so far, those not perfect, how many perfect ones just now -/
def nAC (c T Q p x : Nat) : Prop := p ≤ 25 ∧ T ≤ 26 * Q + p ∧ ∃ y, y < 2147483648 ∧ lq_en c p y x
theorem nAC.imp {c T Q p x x' : Nat} (h : nAC c T Q p x) (hx : x' < 2147483648) : nAC c (T + 1) (Q + 1) 0 x' := by
  obtain ⟨h1, h2, -⟩ := h
  exact ⟨by omega, by omega, x', hx, rfl⟩
theorem nAC.per {c T Q p x s : Nat} (L : lq_all) (h : nAC c T Q p x) (c0 : c ≠ 0) (c99 : c ≤ 99) (t : lq_T c s x) : nAC c (T + 1) Q (p + 1) (lq_i (5 * s) x) := by
  obtain ⟨h1, h2, y, hy, h3⟩ := h
  have e : lq_en c (p + 1) y (lq_i (5 * s) x) := ⟨x, s, h3, t, rfl⟩
  have p25 : p + 1 ≤ 25 := by
    by_cases w : p = 25
    · subst w
      exact absurd (lq_en_ch 26 0 e trivial) (lq_fin L hy (by omega) c99)
    · omega
  exact ⟨p25, by omega, y, hy, e⟩
/-- six members -/
def nSx (o : Nat → Int32) (g : Nat) : Bool := bt (o (48 + g)) 0 && (bt (o (48 + g)) 1 && (bt (o (48 + g)) 2 && (bt (o (48 + g)) 3 && (bt (o (48 + g)) 4 && bt (o (48 + g)) 5))))
theorem nSx_t {o : Nat → Int32} {g : Nat} (h : ∀ k, k < 6 → bt (o (48 + g)) k = true) : nSx o g = true := by
  unfold nSx
  rw [h 0 (by decide), h 1 (by decide), h 2 (by decide), h 3 (by decide), h 4 (by decide), h 5 (by decide)]
  rfl
/-- turns that can't be perfect -/
def nFb (c : Nat) (o : Nat → Int32) (g : Nat) : Bool := decide (c = 0) || !nSx o g
theorem CTX.np {s g cn cl cg ct : Nat} {F : Prop} {c : Int32} {μ ξ : gM} (h : CTX s F c μ ξ) (nc : NC μ ξ cn cl cg ct) (hg : g < 5) (gr : GRP s g no l0 μ ξ) : nP g cn ct ξ := by
  refine ⟨⟨hg, nc.1.1, nc.1.2.2.2⟩, nc.2.2.1, nc.2.2.2.2.2, fun k hk => ?_⟩
  rcases gr.how hg hk with ⟨w, -⟩ | ⟨m, -, w⟩
  · exact Or.inl w
  · obtain ⟨-, w2, -⟩ := h.2.2.1 g k m
    have wb := (wv_b (g := g) (k := k) (cuts := ξ 272 2) h.1 w2.1 w2.2).1
    refine Or.inr ⟨(h.1.mlt nc m).1, (h.pat m).2.1, fun z => ?_, ?_⟩
    · rw [z] at wb; exact absurd wb (by decide)
    · rcases w with ⟨-, w⟩ | ⟨-, w⟩
      · exact Or.inl w
      · exact Or.inr w
theorem nGrL (L : lq_all) {s cn cl cg ct c : Nat} {F : Prop} {cc : Int32} (hs : 34 ≤ s) (c99 : c ≤ 99) : ∀ (m g : Nat) (μ ξ : gM) (T Q p x : Nat), CTX s F cc μ ξ → NC μ ξ cn cl cg ct → GRS s μ ξ → g ≤ cg → 5 < g + m → ξ 272 4 = nI c → ξ 272 9 = nI x → x < 2147483648 → nAC c T Q p x → ∃ μ' ξ' mv Q' p' x', fX12_tickGoes_l47 m (nI g) ξ = fX12_tickGoes_l78 100000 (0 : Int32) (gUp ξ' 272 0 (ξ' 272 0 + 1)) ∧ CTX s F cc μ' ξ' ∧ GRS s μ' ξ' ∧ RF ξ ξ' ∧ RLo ξ ξ' ∧ ξ' 267 22 = ξ 267 22 + nI mv ∧ ξ' 272 9 = nI x' ∧ x' < 2147483648 ∧ nAC c (T + (cg - g)) Q' p' x' ∧ Q + lq_rw (nFb c (ξ 269)) cg ≤ Q' + lq_rw (nFb c (ξ 269)) g ∧ (mv : Int) + nCs ξ - nCs ξ' ≤ 12 * ((cg : Int) - g) - 2 * ((Q' : Int) - Q) := by
  intro m
  induction m with
  | zero => intro g μ ξ T Q p x _ nc _ h1 h2; exact absurd h2 (by have := nc.1.2.2.1; omega)
  | succ m ih =>
    intro g μ ξ T Q p x h nc gs h1 h2 h4 h9 hx ac
    have b := nc.1
    rw [fX12_tickGoes_l47]
    unfold fX12_groups
    rw [zBd_some, nc.2.2.2.2.1]
    by_cases cgc : g = cg
    · subst cgc
      rw [if_pos ((nIle (by omega) (by omega)).mpr (Nat.le_refl _)), zLt_eq]
      exact ⟨μ, ξ, 0, Q, p, x, rfl, h, gs, RF.rf _, fun _ _ => rfl, by rw [show nI 0 = 0 from rfl, Int32.add_zero], h9, hx, by rw [Nat.sub_self]; exact ac, Nat.le_refl _, by omega⟩
    · have g5 : g < 5 := by omega
      rw [if_neg (fun w => cgc (by have := (nIle (by omega) (by omega)).mp w; omega))]
      obtain ⟨S, μ1, μ2, μ3, ξ3, -, -, -, e4, c3, g3, d3, x3⟩ := pGroupGoes hs g5 h (gs g g5)
      obtain ⟨ξ4, mv, x1, f1, f2, f3, f4, f5, f6, f7⟩ := nTurnV (h.np nc g5 (gs g g5)) h4 c99 h9 hx h.2.2.2.2.1
      rw [e4] at f1
      obtain rfl := Option.some.inj f1
      rw [e4, zBd_some, zLt_eq, show nI g + (1 : Int32) = nI (g + 1) from nI_1 g]
      have e9 : ξ3 269 = ξ 269 := x3.k9
      have h4' : ξ3 272 4 = nI c := by rw [x3.k4 g5]; exact h4
      have cs := nCs_1 (ξ := ξ) (ξ' := ξ3) g5 (fun g' hg' ne => nCg_cg (fun j hj => by
        rw [e9, x3.k2, x3.2.2 (10 + (6 * g' + j)) (by omega) (by omega) (by omega) (by omega) (by omega) (by omega) (by omega) (by omega) (by omega)]
        exact ⟨rfl, x3.2.2 _ (by omega) (by omega) (by omega) (by omega) (by omega) (by omega) (by omega) (by omega) (by omega), x3.2.2 _ (by omega) (by omega) (by omega) (by omega) (by omega) (by omega) (by omega) (by omega) (by omega)⟩))
      have rs : lq_rw (nFb c (ξ 269)) (g + 1) = lq_rw (nFb c (ξ 269)) g + (if nFb c (ξ 269) g = true then 1 else 0) := rfl
      have go : ∀ (Q1 p1 : Nat), nAC c (T + 1) Q1 p1 x1 → Q + (if nFb c (ξ 269) g = true then 1 else 0) ≤ Q1 → (mv : Int) + nCs ξ - nCs ξ3 ≤ 12 - 2 * ((Q1 : Int) - Q) → ∃ μ' ξ' mv Q' p' x', fX12_tickGoes_l47 m (nI (g + 1)) ξ3 = fX12_tickGoes_l78 100000 (0 : Int32) (gUp ξ' 272 0 (ξ' 272 0 + 1)) ∧ CTX s F cc μ' ξ' ∧ GRS s μ' ξ' ∧ RF ξ ξ' ∧ RLo ξ ξ' ∧ ξ' 267 22 = ξ 267 22 + nI mv ∧ ξ' 272 9 = nI x' ∧ x' < 2147483648 ∧ nAC c (T + (cg - g)) Q' p' x' ∧ Q + lq_rw (nFb c (ξ 269)) cg ≤ Q' + lq_rw (nFb c (ξ 269)) g ∧ (mv : Int) + nCs ξ - nCs ξ' ≤ 12 * ((cg : Int) - g) - 2 * ((Q' : Int) - Q) := fun Q1 p1 a q v => by
        obtain ⟨μ', ξ', mv2, Q', p', x', r1, r2, r3, r4, r5, r6, r7, r8, r9, r10, r11⟩ := ih (g + 1) μ3 ξ3 (T + 1) Q1 p1 x1 c3 (nc.mv hs d3 x3) (gs.mv g5 g3 d3 x3) (by omega) (by omega) h4' f4 f5 a
        rw [e9] at r10
        refine ⟨μ', ξ', mv + mv2, Q', p', x', r1, r2, r3, (x3.rf' g5).tr r4, x3.rl.tr r5, by rw [r6, f3, Int32.add_assoc, nI_add], r7, r8, ?_, by omega, by omega⟩
        rw [show T + (cg - g) = T + 1 + (cg - (g + 1)) by omega]
        exact r9
      rcases f7 with f7 | ⟨c0, al, s', lt, ex⟩
      · refine go (Q + 1) 0 (ac.imp f5) (by split <;> omega) (by omega)
      · subst ex
        have fb : nFb c (ξ 269) g = false := by
          unfold nFb
          rw [decide_eq_false c0, nSx_t (fun k hk => ?_)]
          · rfl
          · rcases (gs g g5).how g5 hk with ⟨w, -⟩ | ⟨mm, -⟩
            · exact absurd w (al k hk)
            · exact mm.2.2
        refine go Q (p + 1) (ac.per L c0 c99 lt) (by rw [fb, if_neg (by decide)]; exact Nat.le_refl _) (by omega)
theorem nAC.imps {c T Q p x : Nat} (h : nAC c T Q p x) (hx : x < 2147483648) : ∀ n, ∃ p', nAC c (T + n) (Q + n) p' x := by
  intro n
  induction n with
  | zero => exact ⟨p, h⟩
  | succ n ih =>
    obtain ⟨p', h'⟩ := ih
    exact ⟨0, h'.imp hx⟩
theorem lq_rw_u {p : Nat → Bool} {n N : Nat} (h : ∀ j, n ≤ j → j < N → p j = true) : ∀ d, n + d ≤ N → lq_rw p (n + d) = lq_rw p n + d := by
  intro d
  induction d with
  | zero => intro _; rfl
  | succ d ih =>
    intro hd
    show lq_rw p (n + d) + (if p (n + d) = true then 1 else 0) = _
    rw [ih (by omega), if_pos (h _ (by omega) (by omega))]; omega
/-- events at one tick -/
def nAt (ξ : gM) (k : Nat) : Bool := decide (ξ 272 (145 + 5 * k) = ξ 272 0)
theorem nEvL {s n cn cl cg ct : Nat} {F : Prop} {c : Int32} (hs : 34 ≤ s) : ∀ (m k : Nat) (μ ξ : gM), SR s F c μ ξ → NC μ ξ cn cl cg ct → PLN s n μ ξ → k ≤ n → n - k < m → ∃ μ' ξ' mv, fX12_tickGoes_l2 m (nI k) ξ = fX12_tickGoes_l47 100000 (0 : Int32) ξ' ∧ SR s F c μ' ξ' ∧ NC μ' ξ' cn cl cg ct ∧ RF ξ ξ' ∧ ξ' 272 0 = ξ 272 0 ∧ (ξ' 267 22 = ξ 267 22 + nI mv ∧ ξ' 272 9 = ξ 272 9) ∧ (mv : Int) + nCs ξ - nCs ξ' ≤ (jE ct : Nat) * ((lq_rw (nAt ξ) n : Nat) - (lq_rw (nAt ξ) k : Nat)) := by
  intro m
  induction m with
  | zero => intro k μ ξ _ _ _ _ h1; exact absurd h1 (by omega)
  | succ m ih =>
    intro k μ ξ h nc pn hkn hm
    obtain ⟨p1, p2, p3, p4, p5, p6⟩ := id pn
    by_cases ck : k = n
    · subst ck
      rw [mHapE p3]
      refine ⟨μ, ξ, 0, rfl, h, nc, RF.rf _, rfl, ⟨by rw [show nI 0 = 0 from rfl, Int32.add_zero], rfl⟩, ?_⟩
      rw [Int.sub_self, Int.mul_zero]
      omega
    · have kn : k < n := by omega
      have rs : lq_rw (nAt ξ) (k + 1) = lq_rw (nAt ξ) k + (if nAt ξ k = true then 1 else 0) := rfl
      rw [mHap1 p1 kn p3]
      by_cases ca : ξ 272 (145 + 5 * k) = ξ 272 0
      · rw [if_pos ca]
        have at1 : nAt ξ k = true := decide_eq_true ca
        obtain ⟨μ1, ξ1, -, e2, h1, f1⟩ := pEv hs h nc p1 kn (p5 k kn) (fun j hj => p4 (5 * k + j) (by omega))
        obtain ⟨ξ2, mv, e3, v1, -, v3⟩ := nHap h nc p1 kn (p5 k kn)
        rw [e2] at e3
        obtain rfl := Option.some.inj e3
        rw [e2, zBd_some]
        obtain ⟨ft, fr, f0, f8, fx⟩ := f1
        have ae : ∀ j, j < 20 → nAt ξ1 j = nAt ξ j := fun j hj => by unfold nAt; rw [fr.2.2 _ (by omega), fx]
        obtain ⟨μ', ξ', mv2, r1, r2, r3, r4, r5, r6, r7⟩ := ih (k + 1) μ1 ξ1 h1 (nc.tf hs ft fr) (pn.mv ft fr) (by omega) (by omega)
        rw [lq_rw_cg (n := n) (fun j hj => ae j (by omega)), lq_rw_cg (n := k + 1) (fun j hj => ae j (by omega)), rs, at1, if_pos rfl] at r7
        refine ⟨μ', ξ', mv + mv2, r1, r2, r3, fr.tr r4, r5.trans fx, ⟨by rw [r6.1, v1.1, Int32.add_assoc, nI_add], r6.2.trans v1.2⟩, ?_⟩
        generalize lq_rw (nAt ξ) n = A at r7 ⊢
        generalize lq_rw (nAt ξ) k = B at r7 ⊢
        have : (jE ct : Int) * ((A : Int) - (B : Int)) = (jE ct : Int) * ((A : Int) - ((B + 1 : Nat) : Int)) + (jE ct : Int) := by
          rw [show (A : Int) - (B : Int) = ((A : Int) - ((B + 1 : Nat) : Int)) + 1 by omega, Int.mul_add, Int.mul_one]
        omega
      · rw [if_neg ca]
        have at0 : nAt ξ k = false := decide_eq_false ca
        obtain ⟨μ', ξ', mv2, r1, r2, r3, r4, r5, r6, r7⟩ := ih (k + 1) μ ξ h nc pn (by omega) (by omega)
        rw [rs, at0, if_neg (by decide), Nat.add_zero] at r7
        exact ⟨μ', ξ', mv2, r1, r2, r3, r4, r5, r6, r7⟩
/-- events still to come -/
def nRem (ξ : gM) (n : Nat) : Nat := lq_rw (fun k => decide (tkI ξ ≤ atI ξ k)) n
theorem nRem_s {ξ ξ' : gM} (et : tkI ξ' = tkI ξ + 1) : ∀ {n : Nat}, (∀ k, k < n → atI ξ' k = atI ξ k) → nRem ξ n = nRem ξ' n + lq_rw (nAt ξ) n := by
  intro n
  induction n with
  | zero => intro _; rfl
  | succ n ih =>
    intro h
    have i := ih (fun k hk => h k (by omega))
    show nRem ξ n + (if decide (tkI ξ ≤ atI ξ n) = true then 1 else 0) = nRem ξ' n + (if decide (tkI ξ' ≤ atI ξ' n) = true then 1 else 0) + (lq_rw (nAt ξ) n + (if nAt ξ n = true then 1 else 0))
    rw [h n (by omega), et, i]
    have e : nAt ξ n = decide (atI ξ n = tkI ξ) := by
      unfold nAt atI tkI
      exact decide_eq_decide.mpr Int32.toInt_inj.symm
    rw [e]
    simp only [decide_eq_true_eq]
    repeat' split
    all_goals omega
theorem nTick (L : lq_all) {s n cn cl cg ct c : Nat} {F : Prop} {cc : Int32} {μ ξ : gM} {T Q p x : Nat} (hs : 34 ≤ s) (h : RS s n F cc cn cl cg ct μ ξ) (tb : 0 ≤ tkI ξ ∧ tkI ξ ≤ 100000) (h4 : ξ 272 4 = nI c) (c99 : c ≤ 99) (ac : nAC c T Q p x) (hx : x < 2147483648) (h9 : ξ 272 9 = nI x) : ∃ μ' ξ' mv Q' p' x', fX12_tickGoes ξ = some ξ' ∧ RS s n F cc cn cl cg ct μ' ξ' ∧ RF ξ ξ' ∧ tkI ξ' = tkI ξ + 1 ∧ ξ' 267 22 = ξ 267 22 + nI mv ∧ ξ' 272 9 = nI x' ∧ x' < 2147483648 ∧ nAC c (T + 5) Q' p' x' ∧ Q + lq_rw (nFb c (ξ 269)) 5 ≤ Q' ∧ (mv : Int) + nCs ξ - nCs ξ' ≤ 60 - 2 * ((Q' : Int) - Q) + (jE ct : Nat) * ((nRem ξ n : Nat) - (nRem ξ' n : Nat)) := by
  obtain ⟨μt, ξt, -, et, rt, tt, ft, kt⟩ := h.tick hs tb
  obtain ⟨h1, nc, pn, rg, nx0, px⟩ := id h
  have b := nc.1
  obtain ⟨μ1, ξ1, mv1, e1, s1, nc1, rf1, x01, v1, w1⟩ := nEvL hs 100000 0 μ ξ h1 nc pn (Nat.zero_le _) (by have := pn.1; omega)
  have h41 : ξ1 272 4 = nI c := by rw [rf1.2.2 4 (by omega)]; exact h4
  obtain ⟨μ2, ξ2, mv2, Q', p', x', e2, c2, g2, rf2, rl2, v2, x29, hx', ac2, q2, w2⟩ := nGrL L hs c99 100000 0 μ1 ξ1 T Q p x s1.1 nc1 s1.2.1 (Nat.zero_le _) (by omega) h41 (v1.2.trans h9) hx ac
  have e9 : ξ1 269 = ξ 269 := rf1.1 269 (by decide) (by decide) (by decide)
  rw [e9] at q2
  rw [Nat.sub_zero] at ac2
  have e29 : ξ2 269 = ξ1 269 := rf2.1 269 (by decide) (by decide) (by decide)
  have u9 : ∀ a, a ≠ 272 → gUp ξ2 272 0 (ξ2 272 0 + 1) a = ξ2 a := fun a ha => zUp_ne _ ha
  have ui : ∀ i, i ≠ 0 → gUp ξ2 272 0 (ξ2 272 0 + 1) 272 i = ξ2 272 i := fun i hi => zUp_slot _ hi
  have ct' := c2.tick (v := ξ2 272 0 + 1) hs
  obtain ⟨ξ3, e3, t1, t2, -⟩ := mTal_l (cg := cg) 100000 0 (gUp ξ2 272 0 (ξ2 272 0 + 1)) ct'.1 (by rw [u9 269 (by decide), e29, e9]; exact nc.2.2.2.2.1) b.2.2.1 (fun g hg => (g2 g hg).cg hg (fun a ha => zUp_ne _ (by omega)) (u9 269 (by decide)) (fun i hi => ui i (by omega))) (Nat.zero_le _) (by omega)
  have es : fX12_tickGoes ξ = some ξ3 := by
    unfold fX12_tickGoes
    rw [z32, e1, z32, e2, z32, e3]
  rw [et] at es
  obtain rfl := Option.some.inj es
  have cs : nCs ξt = nCs ξ2 := by
    have g1 : ∀ g, g < 5 → nCg ξt g = nCg ξ2 g := fun g hg => nCg_cg (fun j hj => by
      rw [t1 269 (by decide), u9 269 (by decide), t2 2 (by omega), ui 2 (by omega), t2 (10 + (6 * g + j)) (by omega), ui (10 + (6 * g + j)) (by omega), t2 (40 + (6 * g + j)) (by omega), ui (40 + (6 * g + j)) (by omega), t2 (70 + (6 * g + j)) (by omega), ui (70 + (6 * g + j)) (by omega)]
      exact ⟨rfl, rfl, rfl⟩)
    unfold nCs
    rw [g1 0 (by decide), g1 1 (by decide), g1 2 (by decide), g1 3 (by decide), g1 4 (by decide)]
  obtain ⟨p'', ac3⟩ := ac2.imps hx' (5 - cg)
  have rm := nRem_s (ξ := ξ) (ξ' := ξt) (n := n) kt (fun k hk => atI.mv ft (by have := pn.1; omega))
  have f5 : lq_rw (nFb c (ξ 269)) 5 = lq_rw (nFb c (ξ 269)) cg + (5 - cg) := by
    have a := lq_rw_u (p := nFb c (ξ 269)) (n := cg) (N := 5) (fun j hj j5 => by
      unfold nFb
      have : nSx (ξ 269) j = false := by
        cases w : nSx (ξ 269) j with
        | false => rfl
        | true =>
          unfold nSx at w
          rw [Bool.and_eq_true] at w
          have := (h1.1.1.mlt nc ⟨j5, by decide, w.1⟩).2
          omega
      rw [this, Bool.not_false, Bool.or_true]) (5 - cg) (by omega)
    rw [show cg + (5 - cg) = 5 by omega] at a
    exact a
  refine ⟨μt, ξt, mv1 + mv2, Q' + (5 - cg), p'', x', et, rt, ft, kt, ?_, ?_, hx', ?_, ?_, ?_⟩
  · rw [t1 267 (by decide), u9 267 (by decide), v2, v1.1, Int32.add_assoc, nI_add]
  · rw [t2 9 (by omega), ui 9 (by decide)]; exact x29
  · rw [show T + 5 = T + cg + (5 - cg) by omega]; exact ac3
  · have z : lq_rw (nFb c (ξ 269)) 0 = 0 := rfl
    omega
  · have z : lq_rw (nAt ξ) 0 = 0 := rfl
    rw [z] at w1
    rw [cs]
    have j : (jE ct : Int) * ((nRem ξ n : Nat) - (nRem ξt n : Nat)) = (jE ct : Int) * ((lq_rw (nAt ξ) n : Nat) - ((0 : Nat) : Int)) := by
      congr 1
      omega
    rw [j]
    generalize (jE ct : Int) * ((lq_rw (nAt ξ) n : Nat) - ((0 : Nat) : Int)) = J at w1 ⊢
    omega
theorem nRun (L : lq_all) {s n cn cl cg ct c : Nat} {F : Prop} {cc : Int32} (hs : 34 ≤ s) (c99 : c ≤ 99) : ∀ (q : Nat) (μ ξ ξ' : gM) (T Q p x : Nat), RS s n F cc cn cl cg ct μ ξ → 0 ≤ tkI ξ → tkI ξ + (q : Int) ≤ 100000 → ξ 272 4 = nI c → nAC c T Q p x → x < 2147483648 → ξ 272 9 = nI x → mTk q ξ = some ξ' → ∃ μ' mv Q' p' x', RS s n F cc cn cl cg ct μ' ξ' ∧ RF ξ ξ' ∧ tkI ξ' = tkI ξ + (q : Int) ∧ ξ' 267 22 = ξ 267 22 + nI mv ∧ nAC c (T + 5 * q) Q' p' x' ∧ Q + q * lq_rw (nFb c (ξ 269)) 5 ≤ Q' ∧ (mv : Int) + nCs ξ - nCs ξ' ≤ 60 * (q : Int) - 2 * ((Q' : Int) - Q) + (jE ct : Nat) * ((nRem ξ n : Nat) - (nRem ξ' n : Nat)) := by
  intro q
  induction q with
  | zero =>
    intro μ ξ ξ' T Q p x h t0 tb h4 ac hx h9 e
    rw [mTk] at e
    obtain rfl := Option.some.inj e
    exact ⟨μ, 0, Q, p, x, h, RF.rf _, by omega, by rw [show nI 0 = 0 from rfl, Int32.add_zero], ac, by omega, by rw [Int.sub_self, Int.mul_zero]; omega⟩
  | succ q ih =>
    intro μ ξ ξ' T Q p x h t0 tb h4 ac hx h9 e
    obtain ⟨μ1, ξ1, mv1, Q1, p1, x1, e1, h1, f1, k1, v1, x19, hx1, ac1, q1, w1⟩ := nTick L hs h ⟨t0, by omega⟩ h4 c99 ac hx h9
    rw [mTk, e1, zBd_some] at e
    obtain ⟨μ', mv2, Q', p', x', r1, r2, r3, r4, r5, r6, r7⟩ := ih μ1 ξ1 ξ' (T + 5) Q1 p1 x1 h1 (by omega) (by omega) (by rw [f1.2.2 4 (by omega)]; exact h4) ac1 hx1 x19 e
    rw [f1.1 269 (by decide) (by decide) (by decide)] at r6
    refine ⟨μ', mv1 + mv2, Q', p', x', r1, f1.tr r2, by omega, by rw [r4, v1, Int32.add_assoc, nI_add], ?_, ?_, ?_⟩
    · rw [show T + 5 * (q + 1) = T + 5 + 5 * q by omega]; exact r5
    · rw [Nat.succ_mul]; omega
    · have j : (jE ct : Int) * ((nRem ξ n : Nat) - (nRem ξ' n : Nat)) = (jE ct : Int) * ((nRem ξ n : Nat) - (nRem ξ1 n : Nat)) + (jE ct : Int) * ((nRem ξ1 n : Nat) - (nRem ξ' n : Nat)) := by
        rw [← Int.mul_add]
        congr 1
        omega
      rw [j]
      generalize (jE ct : Int) * ((nRem ξ n : Nat) - (nRem ξ1 n : Nat)) = J1 at w1 ⊢
      generalize (jE ct : Int) * ((nRem ξ1 n : Nat) - (nRem ξ' n : Nat)) = J2 at r7 ⊢
      omega
/-- a run from its start: its moves -/
theorem nRun0 (L : lq_all) {s n q cn cl cg ct c : Nat} {F : Prop} {cc : Int32} {μ ξ ξ' : gM} (hs : 34 ≤ s) (h : RS s n F cc cn cl cg ct μ ξ) (t0 : 0 ≤ tkI ξ) (tb : tkI ξ + (q : Int) ≤ 100000) (h4 : ξ 272 4 = nI c) (c99 : c ≤ 99) (e : mTk q ξ = some ξ') : ∃ μ' mv Q, RS s n F cc cn cl cg ct μ' ξ' ∧ RF ξ ξ' ∧ tkI ξ' = tkI ξ + (q : Int) ∧ ξ' 267 22 = ξ 267 22 + nI mv ∧ 5 * q ≤ 26 * Q + 25 ∧ q * lq_rw (nFb c (ξ 269)) 5 ≤ Q ∧ mv + 2 * Q ≤ 60 * q + 55 + jE ct * n := by
  obtain ⟨x, hx, e9⟩ : ∃ x, x < 2147483648 ∧ ξ 272 9 = nI x := by
    have n5 := h.1.1.2.1.2.2.2.2.2.2
    refine ⟨(ξ 272 9).toInt.toNat, ?_, nI_of' (by omega)⟩
    have := Int32.toInt_lt (ξ 272 9)
    omega
  obtain ⟨μ', mv, Q, p, x', r1, r2, r3, r4, ⟨a1, a2, -⟩, r6, r7⟩ := nRun L hs c99 q μ ξ ξ' 0 0 0 x h t0 tb h4 ⟨by decide, by decide, x, hx, rfl⟩ hx e9 e
  refine ⟨μ', mv, Q, r1, r2, r3, r4, by omega, by omega, ?_⟩
  have b1 := nCs_b ξ
  have b2 := nCs_b ξ'
  have rn : nRem ξ n ≤ n := lq_rw_le n
  have j : (jE ct : Int) * ((nRem ξ n : Nat) - (nRem ξ' n : Nat)) ≤ (jE ct : Int) * (n : Int) := Int.mul_le_mul_of_nonneg_left (by omega) (by omega)
  have j2 : ((jE ct * n : Nat) : Int) = (jE ct : Int) * (n : Int) := Int.natCast_mul _ _
  rw [← j2] at j
  generalize (jE ct : Int) * ((nRem ξ n : Nat) - (nRem ξ' n : Nat)) = J at j r7
  generalize jE ct * n = K at j ⊢
  omega
