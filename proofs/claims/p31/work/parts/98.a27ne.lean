/-! a turn: its moves against the counts; what a perfect one asks of the draws -/
def nKy (ξ : gM) (g k : Nat) : Int := 8 * (wv (ξ 269) (ξ 272 2) (ξ 272 (10 + (6 * g + k))) g k).toInt + k
theorem nKy_inj (ξ : gM) (g : Nat) : nKi (nKy ξ g) := fun i j hi hj h => by
  unfold nKy at h
  omega
theorem sg_ky {a b : Int32} {f k : Nat} (hf : f < 6) (hk : k < 6) (ne : f ≠ k) : (sg a b (nI f) (nI k) = 1 → 8 * b.toInt + k < 8 * a.toInt + f) ∧ (sg a b (nI f) (nI k) = 0 → 8 * a.toInt + f < 8 * b.toInt + k) := by
  unfold sg
  have n10 : ¬ (1 : Int32) = 0 := by decide
  have n01 : ¬ (0 : Int32) = 1 := by decide
  by_cases c : b < a
  · have := Int32.lt_iff_toInt_lt.mp c
    rw [if_pos c]
    exact ⟨fun _ => by omega, fun w => absurd w n10⟩
  · have c' : ¬ b.toInt < a.toInt := fun w => c (Int32.lt_iff_toInt_lt.mpr w)
    rw [if_neg c]
    by_cases e : a = b
    · subst e
      rw [if_pos rfl]
      by_cases fk : nI f ≤ nI k
      · have := (nIle (by omega) (by omega)).mp fk
        rw [if_pos fk]
        exact ⟨fun w => absurd w n01, fun _ => by omega⟩
      · have : ¬ f ≤ k := fun w => fk ((nIle (by omega) (by omega)).mpr w)
        rw [if_neg fk]
        exact ⟨fun _ => by omega, fun w => absurd w n10⟩
    · have : a.toInt ≠ b.toInt := fun w => e (Int32.toInt_inj.mp w)
      rw [if_neg e]
      exact ⟨fun w => absurd w n01, fun _ => by omega⟩
/-- what the reference's group counts -/
def nCg (ξ : gM) (g : Nat) : Int := nCt (nKy ξ g) (fun k => (ξ 272 (40 + (6 * g + k))).toInt.toNat) (fun k => (ξ 272 (70 + (6 * g + k))).toInt)
theorem nRw_all {P : Nat → Bool} {f : Nat} (h : ∀ j, j < 6 → P j = !decide (j = f)) : ∀ {n : Nat}, n ≤ 6 → lq_rw P n = if n ≤ f then n else n - 1 := by
  intro n
  induction n with
  | zero => intro _; rw [if_pos (Nat.zero_le _)]; rfl
  | succ n ih =>
    intro hn
    show lq_rw P n + (if P n = true then 1 else 0) = _
    rw [ih (by omega), h n (by omega)]
    by_cases c : n = f
    · subst c
      rw [decide_eq_true rfl, if_pos (Nat.le_refl _), if_neg (by decide), if_neg (by omega)]
      rfl
    · rw [decide_eq_false c, if_pos (show (!false) = true from rfl)]
      by_cases c2 : n ≤ f
      · rw [if_pos c2, if_pos (by omega)]
      · rw [if_neg c2, if_neg (by omega)]; omega
theorem nD_all {sn : Nat → Bool} {P : Nat → Nat → Bool} (h : ∀ f j, f < 6 → j < 6 → P f j = !decide (j = f)) : ∀ {n : Nat}, n ≤ 6 → nD sn P n = 5 * lq_rw sn n := by
  intro n
  induction n with
  | zero => intro _; rfl
  | succ n ih =>
    intro hn
    show nD sn P n + (if sn n = true then lq_rw (P n) 6 else 0) = 5 * (lq_rw sn n + (if sn n = true then 1 else 0))
    have e6 : lq_rw (P n) 6 = 5 := by rw [nRw_all (f := n) (fun j hj => h n j (by omega) hj) (Nat.le_refl _), if_neg (by omega)]
    rw [ih (by omega), e6]
    split <;> omega
/-- what is known of all letters of a turn -/
def nTL (g c x0 : Nat) (ξ : gM) (sn : Nat → Bool) (j f t : Nat) : Prop := (sn f = false → t = 0) ∧ (sn f = true → nLT g f c (nD sn (nPB g ξ) f) x0 (wv (ξ 269) (ξ 272 2) (ξ 272 (10 + (6 * g + f))) g f) ξ j t)
theorem nPerf {g c x0 : Nat} {ξ : gM} {sn : Nat → Bool} {τ : Nat → Nat → Nat} {r : Nat → Nat} (r6 : ∀ i, i < 6 → r i < 6) (rr : ∀ i, i < 6 → nRk (nKy ξ g) (r i) = i) (ri : ∀ k, k < 6 → r (nRk (nKy ξ g) k) = k)
    (tl : ∀ j f, j < 6 → f < 6 → nTL g c x0 ξ sn j f (τ j f))
    (up : ∀ i, i < 6 → ξ 272 (40 + (6 * g + r i)) ≠ 0) (s0 : sn (r 0) = true) (s1 : sn (r 1) = true) (s4 : sn (r 4) = true) (s5 : sn (r 5) = true)
    (t10 : τ (r 1) (r 0) = 1) (t2 : τ (r 2) (r 0) = 1 ∧ τ (r 2) (r 1) = 1 ∧ ∃ w, ((r 0 < w ∧ w < r 1) ∨ (r 1 < w ∧ w < r 0)) ∧ τ (r 2) w = 2)
    (t3 : τ (r 3) (r 4) = 2 ∧ τ (r 3) (r 5) = 2 ∧ (∃ w, ((r 4 < w ∧ w < r 5) ∨ (r 5 < w ∧ w < r 4)) ∧ τ (r 3) w = 1) ∧ (sn (r 3) = true → ∃ w, w < r 4 ∧ w < r 5 ∧ τ (r 3) w = 1))
    (t4 : τ (r 4) (r 5) = 2 ∧ ∃ w, w < r 5 ∧ τ (r 4) w = 1) (t5 : ∀ f, f < 6 → τ (r 5) f = 0)
    (k1 : ∀ j f, j < 6 → f < 6 → τ j f = 1 → nRk (nKy ξ g) f < nRk (nKy ξ g) j) (k2 : ∀ j f, j < 6 → f < 6 → τ j f = 2 → nRk (nKy ξ g) j < nRk (nKy ξ g) f) :
    c ≠ 0 ∧ ∃ s, lq_T c s x0 ∧ nx c (nD sn (nPB g ξ) 6) x0 = lq_i (5 * s) x0 := by
  have q : ∀ j f, j < 6 → f < 6 → τ j f ≠ 0 → sn f = true ∧ nPB g ξ f j = true := fun j f hj hf w => by
    obtain ⟨a, b⟩ := tl j f hj hf
    cases e : sn f with
    | false => exact absurd (a e) w
    | true => exact ⟨rfl, (b e).1 w⟩
  have l0 := r6 0 (by decide)
  have l1 := r6 1 (by decide)
  have l2 := r6 2 (by decide)
  have l3 := r6 3 (by decide)
  have l4 := r6 4 (by decide)
  have l5 := r6 5 (by decide)
  have ne : ∀ i j, i < 6 → j < 6 → i ≠ j → r i ≠ r j := fun i j hi hj d w => d (by have := rr i hi; rw [w, rr j hj] at this; exact this.symm)
  have tg : ∀ {j f : Nat}, j < 6 → f < 6 → τ j f ≠ 0 → bt (ξ 272 3) f = bt (ξ 272 3) j := fun {j f} hj hf w => by
    have := (nPB_d (q j f hj hf w).2).2.2
    exact eq_of_beq this
  -- all together
  have b01 := tg l1 l0 (by omega)
  have b02 := tg l2 l0 (by omega)
  have b34 := tg l3 l4 (by omega)
  have b35 := tg l3 l5 (by omega)
  obtain ⟨t20, t21, w2, w2b, w2t⟩ := t2
  have w26 : w2 < 6 := by omega
  have b2w := tg l2 w26 (by omega)
  have kw := k2 _ _ l2 w26 w2t
  rw [rr 2 (by decide)] at kw
  have w2c : w2 = r 3 ∨ w2 = r 4 ∨ w2 = r 5 := by
    have b6 := nRk_lt (κ := nKy ξ g) w26
    have e := ri w2 w26
    generalize nRk (nKy ξ g) w2 = n at kw b6 e
    have cn : n = 3 ∨ n = 4 ∨ n = 5 := by omega
    rcases cn with cn | cn | cn <;> subst cn
    · exact Or.inl e.symm
    · exact Or.inr (Or.inl e.symm)
    · exact Or.inr (Or.inr e.symm)
  have b23 : bt (ξ 272 3) (r 3) = bt (ξ 272 3) (r 2) := by
    rcases w2c with e | e | e
    · rw [← e]; exact b2w
    · rw [← b34, ← e]; exact b2w
    · rw [← b35, ← e]; exact b2w
  have allb : ∀ i, i < 6 → bt (ξ 272 3) (r i) = bt (ξ 272 3) (r 2) := fun i hi => by
    have ci : i = 0 ∨ i = 1 ∨ i = 2 ∨ i = 3 ∨ i = 4 ∨ i = 5 := by omega
    rcases ci with e | e | e | e | e | e <;> subst e
    · exact b02
    · rw [← b01]; exact b02
    · rfl
    · exact b23
    · rw [b34]; exact b23
    · rw [b35]; exact b23
  have allk : ∀ k, k < 6 → bt (ξ 272 3) k = bt (ξ 272 3) (r 2) ∧ ξ 272 (40 + (6 * g + k)) ≠ 0 := fun k hk => by
    have e := ri k hk
    have b6 := nRk_lt (κ := nKy ξ g) hk
    exact ⟨by rw [← e]; exact allb _ b6, by rw [← e]; exact up _ b6⟩
  have hP : ∀ f j, f < 6 → j < 6 → nPB g ξ f j = !decide (j = f) := fun f j hf hj => by
    unfold nPB
    rw [decide_eq_true (allk j hj).2, (allk j hj).1, (allk f hf).1, beq_self_eq_true, Bool.and_true, Bool.and_true]
  have hPt : ∀ f j, f < 6 → j < 6 → j ≠ f → nPB g ξ f j = true := fun f j hf hj n => by rw [hP f j hf hj, decide_eq_false n]; rfl
  have c0 : c ≠ 0 := fun c0 => ((tl (r 5) (r 0) l5 l0).2 s0).2.2.2.2.2 (hPt _ _ l0 l5 (ne 5 0 (by decide) (by decide) (by decide))) c0 (t5 _ l0)
  refine ⟨c0, ?_⟩
  -- draws by places
  have ix : ∀ f j, f < 6 → j < 6 → j ≠ f → sn f = true → (τ j f = 0 ↔ lq_d (lq_i (lq_ix sn f j + 1) x0) < c) := fun f j hf hj n s => by
    have := ((tl j f hj hf).2 s).2.2.2.2.1 (hPt f j hf hj n) c0
    rw [nD_all hP (by omega), nRw_all (f := f) (fun i hi => hP f i hf hi) (by omega)] at this
    rw [this]
    unfold lq_ix
    by_cases c1 : j < f
    · rw [if_pos c1, if_pos (by omega)]
    · rw [if_neg c1, if_neg (by omega)]
  have sc : ∀ f, f < 6 → sn f = lq_sn (r 2) (r 3) (sn (r 2)) (sn (r 3)) f := fun f hf => by
    have b6 := nRk_lt (κ := nKy ξ g) hf
    have e := ri f hf
    have n6 : (Nat.ble 6 f == false) = true := by
      cases w : Nat.ble 6 f with
      | false => rfl
      | true => have := Nat.le_of_ble_eq_true w; omega
    unfold lq_sn
    rw [n6, Bool.true_and]
    generalize hn : nRk (nKy ξ g) f = n at b6 e
    have cn : n = 0 ∨ n = 1 ∨ n = 2 ∨ n = 3 ∨ n = 4 ∨ n = 5 := by omega
    rcases cn with cn | cn | cn | cn | cn | cn <;> subst cn <;> rw [← e]
    · rw [s0, lq_bne (ne 0 2 (by decide) (by decide) (by decide)), lq_bne (ne 0 3 (by decide) (by decide) (by decide))]; rfl
    · rw [s1, lq_bne (ne 1 2 (by decide) (by decide) (by decide)), lq_bne (ne 1 3 (by decide) (by decide) (by decide))]; rfl
    · rw [lq_bne (ne 2 3 (by decide) (by decide) (by decide)), Nat.beq_refl]
      cases sn (r 2) <;> rfl
    · rw [lq_bne (ne 3 2 (by decide) (by decide) (by decide)), Nat.beq_refl]
      cases sn (r 3) <;> rfl
    · rw [s4, lq_bne (ne 4 2 (by decide) (by decide) (by decide)), lq_bne (ne 4 3 (by decide) (by decide) (by decide))]; rfl
    · rw [s5, lq_bne (ne 5 2 (by decide) (by decide) (by decide)), lq_bne (ne 5 3 (by decide) (by decide) (by decide))]; rfl
  have rwc : ∀ n, n ≤ 6 → lq_rw (lq_sn (r 2) (r 3) (sn (r 2)) (sn (r 3))) n = lq_rw sn n := fun n hn => lq_rw_cg (fun j hj => (sc j (by omega)).symm)
  have ixc : ∀ f j, f < 6 → lq_ix (lq_sn (r 2) (r 3) (sn (r 2)) (sn (r 3))) f j = lq_ix sn f j := fun f j hf => by unfold lq_ix; rw [rwc f (by omega)]
  -- letters that were read
  have rd : ∀ j f, j < 6 → f < 6 → τ j f ≠ 0 → decide (c ≤ lq_d (lq_i (lq_ix (lq_sn (r 2) (r 3) (sn (r 2)) (sn (r 3))) f j + 1) x0)) = true := fun j f hj hf w => by
    obtain ⟨a, b⟩ := q j f hj hf w
    have nd := (nPB_d b).1
    rw [ixc f j hf]
    refine decide_eq_true (Nat.not_lt.mp (fun l => w ((ix f j hf hj nd a).mpr l)))
  have br := lq_br (n := fun j => decide (c ≤ lq_d (lq_i (j + 1) x0))) (l := fun j => decide (lq_d (lq_i (j + 1) x0) < c)) (s2 := sn (r 2)) (s3 := sn (r 3)) l0 l1 l2 l3 l4 l5 (ne 0 1 (by decide) (by decide) (by decide)) (ne 0 2 (by decide) (by decide) (by decide)) (ne 1 2 (by decide) (by decide) (by decide)) (ne 0 3 (by decide) (by decide) (by decide)) (ne 1 3 (by decide) (by decide) (by decide)) (ne 2 3 (by decide) (by decide) (by decide)) (ne 0 4 (by decide) (by decide) (by decide)) (ne 1 4 (by decide) (by decide) (by decide)) (ne 2 4 (by decide) (by decide) (by decide)) (ne 3 4 (by decide) (by decide) (by decide)) (ne 0 5 (by decide) (by decide) (by decide)) (ne 1 5 (by decide) (by decide) (by decide)) (ne 2 5 (by decide) (by decide) (by decide)) (ne 3 5 (by decide) (by decide) (by decide)) (ne 4 5 (by decide) (by decide) (by decide)) rfl
    (fun f hf s n => by
      rw [ixc f _ hf]
      exact decide_eq_true ((ix f (r 5) hf l5 (fun e => n e.symm) (by rw [sc f hf]; exact s)).mp (t5 f hf)))
    (rd _ _ l2 l0 (by omega)) (rd _ _ l2 l1 (by omega)) (rd _ _ l3 l4 (by omega)) (rd _ _ l3 l5 (by omega)) (rd _ _ l4 l5 (by omega))
    ⟨w2, w26, by rw [← sc w2 w26]; exact (q _ _ l2 w26 (by omega)).1, w2c, w2b, rd _ _ l2 w26 (by omega)⟩
    (by
      obtain ⟨w, wb, wt⟩ := t3.2.2.1
      have w6 : w < 6 := by omega
      refine ⟨w, w6, by rw [← sc w w6]; exact (q _ _ l3 w6 (by omega)).1, ?_, wb, rd _ _ l3 w6 (by omega)⟩
      have kk := k1 _ _ l3 w6 wt
      rw [rr 3 (by decide)] at kk
      have e := ri w w6
      generalize nRk (nKy ξ g) w = n at kk e
      have cn : n = 0 ∨ n = 1 ∨ n = 2 := by omega
      rcases cn with cn | cn | cn <;> subst cn
      · exact Or.inl e.symm
      · exact Or.inr (Or.inl e.symm)
      · exact Or.inr (Or.inr e.symm))
    (by
      obtain ⟨w, wb, wt⟩ := t4.2
      have w6 : w < 6 := by omega
      have qq := q _ _ l4 w6 (by omega)
      exact ⟨w, w6, by rw [← sc w w6]; exact qq.1, fun e => (nPB_d qq.2).1 e.symm, wb, rd _ _ l4 w6 (by omega)⟩)
    (fun s3 => by
      obtain ⟨w, wa, wb, wt⟩ := t3.2.2.2 s3
      have w6 : w < 6 := by omega
      refine ⟨w, w6, by rw [← sc w w6]; exact (q _ _ l3 w6 (by omega)).1, ?_, wa, wb, rd _ _ l3 w6 (by omega)⟩
      have kk := k1 _ _ l3 w6 wt
      rw [rr 3 (by decide)] at kk
      have e := ri w w6
      generalize nRk (nKy ξ g) w = n at kk e
      have cn : n = 0 ∨ n = 1 ∨ n = 2 := by omega
      rcases cn with cn | cn | cn <;> subst cn
      · exact Or.inl e.symm
      · exact Or.inr (Or.inl e.symm)
      · exact Or.inr (Or.inr e.symm))
  rw [rwc 6 (Nat.le_refl _)] at br
  refine ⟨lq_rw sn 6, ?_, ?_⟩
  · unfold lq_Gx at br
    unfold lq_T
    by_cases e4 : lq_rw sn 6 = 4
    · rw [if_pos e4] at br
      exact Or.inl ⟨e4, br⟩
    · rw [if_neg e4] at br
      by_cases e5 : lq_rw sn 6 = 5
      · rw [if_pos e5] at br
        exact Or.inr (Or.inl ⟨e5, br⟩)
      · rw [if_neg e5] at br
        by_cases e6 : lq_rw sn 6 = 6
        · rw [if_pos e6] at br
          exact Or.inr (Or.inr ⟨e6, br⟩)
        · rw [if_neg e6] at br
          exact absurd br (by decide)
  · unfold nx
    rw [if_neg c0, nD_all hP (Nat.le_refl _)]
/-- a turn of a group: moves, counts, when it is perfect -/
theorem nTurnV {g cn ct c x0 : Nat} {ξ0 : gM} (p : nP g cn ct ξ0) (hc4 : ξ0 272 4 = nI c) (c99 : c ≤ 99) (h9 : ξ0 272 9 = nI x0) (hx0 : x0 < 2147483648) (h7 : 0 ≤ (ξ0 272 7).toInt ∧ (ξ0 272 7).toInt ≤ 60) : ∃ (ξ' : gM) (m x1 : Nat), fX12_groupGoes (nI g) ξ0 = some ξ' ∧ EG g ξ0 ξ' ∧ ξ' 267 22 = ξ0 267 22 + nI m ∧ ξ' 272 9 = nI x1 ∧ x1 < 2147483648 ∧ (m : Int) ≤ 12 + nCg ξ' g - nCg ξ0 g ∧ ((m : Int) ≤ 10 + nCg ξ' g - nCg ξ0 g ∨ (c ≠ 0 ∧ (∀ k, k < 6 → ξ0 272 (40 + (6 * g + k)) ≠ 0) ∧ ∃ s, lq_T c s x0 ∧ x1 = lq_i (5 * s) x0)) := by
  obtain ⟨ξ', s, e, τ, sn, h1, h2, -, h4, h5, h6⟩ := nTurn p hc4 c99 h9 hx0 h7
  have p' := p
  obtain ⟨⟨hg, hn, hct⟩, -, -, pk⟩ := p'
  obtain ⟨r, r6, rr, ri, sm⟩ := nSort (nKy_inj ξ0 g)
  have ky : nKy ξ' g = nKy ξ0 g ∨ True := Or.inr trivial
  have kyk : ∀ k, k < 6 → nKy ξ' g k = nKy ξ0 g k := fun k hk => by unfold nKy; rw [h2.wm hg hk]
  have rk : ∀ k, k < 6 → nRk (nKy ξ' g) k = nRk (nKy ξ0 g) k := fun k hk => lq_rw_cg (fun j hj => by rw [kyk k hk, kyk j hj])
  have k1 : ∀ j f, j < 6 → f < 6 → τ j f = 1 → nRk (nKy ξ0 g) f < nRk (nKy ξ0 g) j := fun j f hj hf w => by
    obtain ⟨-, -, -, d⟩ := h6 j hj
    obtain ⟨d1, d2⟩ := d f hf
    cases sf : sn f with
    | false => have := d1 sf; omega
    | true =>
      obtain ⟨e1, -, e3, -⟩ := d2 sf
      have nd := (nPB_d (e1 (by omega))).1
      exact nRk_mono hf ((sg_ky hf hj (fun q => nd q.symm)).1 (e3 w))
  have k2 : ∀ j f, j < 6 → f < 6 → τ j f = 2 → nRk (nKy ξ0 g) j < nRk (nKy ξ0 g) f := fun j f hj hf w => by
    obtain ⟨-, -, -, d⟩ := h6 j hj
    obtain ⟨d1, d2⟩ := d f hf
    cases sf : sn f with
    | false => have := d1 sf; omega
    | true =>
      obtain ⟨e1, -, -, e4, -⟩ := d2 sf
      have nd := (nPB_d (e1 (by omega))).1
      exact nRk_mono hj ((sg_ky hf hj (fun q => nd q.symm)).2 (e4 w))
  have tl : ∀ j f, j < 6 → f < 6 → nTL g c x0 ξ0 sn j f (τ j f) := fun j f hj hf => (h6 j hj).2.2.2 f hf
  have tz : ∀ j f, j < 6 → f < 6 → τ j f ≠ 0 → sn f = true ∧ nPB g ξ0 f j = true := fun j f hj hf w => by
    obtain ⟨a, b⟩ := tl j f hj hf
    cases q : sn f with
    | false => exact absurd (a q) w
    | true => exact ⟨rfl, (b q).1 w⟩
  have t2 : ∀ j f, j < 6 → f < 6 → τ j f ≤ 2 := fun j f hj hf => by
    obtain ⟨a, b⟩ := tl j f hj hf
    cases q : sn f with
    | false => rw [a q]; decide
    | true => exact (b q).2.1
  have h0 : ∀ j, j < 6 → ξ0 272 (40 + (6 * g + j)) ≠ 0 → (ξ0 272 (40 + (6 * g + j))).toInt.toNat ≠ 0 := fun j hj w => by
    rcases pk j hj with z | ⟨-, -, -, z | z⟩
    · exact absurd z w
    · rw [z]; decide
    · rw [z]; decide
  obtain ⟨v1, v2, v3⟩ := tq_turn (g := r) (snd := fun f => sn f = true) (h := fun j => (ξ0 272 (40 + (6 * g + j))).toInt.toNat) (v := fun j => (ξ0 272 (70 + (6 * g + j))).toInt) (τ := fun j f => if j < 6 ∧ f < 6 then τ j f else 0) (s := s) (s' := fun j => nS ξ' g j (e j)) r6 (fun i j hi hj w => by have := rr i hi; rw [w, rr j hj] at this; exact this.symm) (fun f hf => ⟨nRk (nKy ξ0 g) f, nRk_lt hf, ri f hf⟩)
    (fun i hi => (h6 (r i) (r6 i hi)).1)
    (fun i hi => tq_g_cg (fun f _ hf => if_pos ⟨r6 i hi, by omega⟩) (h6 (r i) (r6 i hi)).2.1)
    (fun i j hi hj w => by
      rw [if_pos ⟨r6 i hi, r6 j hj⟩] at w
      obtain ⟨a, b⟩ := tz _ _ (r6 i hi) (r6 j hj) w
      exact ⟨a, h0 _ (r6 i hi) (nPB_d b).2.1⟩)
    (fun k f => by
      show (if k < 6 ∧ f < 6 then τ k f else 0) ≤ 2
      split
      · rename_i w
        exact t2 k f w.1 w.2
      · decide)
    (fun i j hi hj w => by
      rw [if_pos ⟨r6 i hi, r6 j hj⟩] at w
      have := k1 _ _ (r6 i hi) (r6 j hj) w
      rw [rr i hi, rr j hj] at this
      exact this)
    (fun i j hi hj w => by
      rw [if_pos ⟨r6 i hi, r6 j hj⟩] at w
      have := k2 _ _ (r6 i hi) (r6 j hj) w
      rw [rr i hi, rr j hj] at this
      exact this) rfl
  have em : ((smN e 6 : Nat) : Int) = (e (r 0) : Int) + (e (r 1) : Int) + (e (r 2) : Int) + (e (r 3) : Int) + (e (r 4) : Int) + (e (r 5) : Int) := by
    have a := sm (fun k => (e k : Int))
    have b : ((smN e 6 : Nat) : Int) = s6 (fun k => (e k : Int)) := by
      show ((0 + e 0 + e 1 + e 2 + e 3 + e 4 + e 5 : Nat) : Int) = (e 0 : Int) + (e 1 : Int) + (e 2 : Int) + (e 3 : Int) + (e 4 : Int) + (e 5 : Int)
      omega
    rw [b, ← a]
    rfl
  have c0 : nCg ξ0 g = tq_X (ξ0 272 (40 + (6 * g + r 0))).toInt.toNat + tq_X (ξ0 272 (40 + (6 * g + r 1))).toInt.toNat + tq_X (ξ0 272 (40 + (6 * g + r 2))).toInt.toNat + tq_Y (ξ0 272 (40 + (6 * g + r 3))).toInt.toNat (ξ0 272 (70 + (6 * g + r 3))).toInt + tq_Y (ξ0 272 (40 + (6 * g + r 4))).toInt.toNat (ξ0 272 (70 + (6 * g + r 4))).toInt + tq_Z (ξ0 272 (40 + (6 * g + r 5))).toInt.toNat (ξ0 272 (70 + (6 * g + r 5))).toInt := nCt_g rr sm
  have c1 : nCg ξ' g = tq_X (nS ξ' g (r 0) (e (r 0))).1 + tq_X (nS ξ' g (r 1) (e (r 1))).1 + tq_X (nS ξ' g (r 2) (e (r 2))).1 + tq_Y (nS ξ' g (r 3) (e (r 3))).1 (nS ξ' g (r 3) (e (r 3))).2.1 + tq_Y (nS ξ' g (r 4) (e (r 4))).1 (nS ξ' g (r 4) (e (r 4))).2.1 + tq_Z (nS ξ' g (r 5) (e (r 5))).1 (nS ξ' g (r 5) (e (r 5))).2.1 := nCt_g (g := r) (fun i hi => by rw [rk _ (r6 i hi)]; exact rr i hi) sm
  have key : ((smN e 6 : Nat) : Int) - (nCg ξ' g - nCg ξ0 g) = ((nS ξ' g (r 0) (e (r 0))).2.2 : Int) + ((nS ξ' g (r 1) (e (r 1))).2.2 : Int) + ((nS ξ' g (r 2) (e (r 2))).2.2 : Int) + ((nS ξ' g (r 3) (e (r 3))).2.2 : Int) + ((nS ξ' g (r 4) (e (r 4))).2.2 : Int) + ((nS ξ' g (r 5) (e (r 5))).2.2 : Int) - (tq_X (nS ξ' g (r 0) (e (r 0))).1 - tq_X (ξ0 272 (40 + (6 * g + r 0))).toInt.toNat) - (tq_X (nS ξ' g (r 1) (e (r 1))).1 - tq_X (ξ0 272 (40 + (6 * g + r 1))).toInt.toNat) - (tq_X (nS ξ' g (r 2) (e (r 2))).1 - tq_X (ξ0 272 (40 + (6 * g + r 2))).toInt.toNat) - (tq_Y (nS ξ' g (r 3) (e (r 3))).1 (nS ξ' g (r 3) (e (r 3))).2.1 - tq_Y (ξ0 272 (40 + (6 * g + r 3))).toInt.toNat (ξ0 272 (70 + (6 * g + r 3))).toInt) - (tq_Y (nS ξ' g (r 4) (e (r 4))).1 (nS ξ' g (r 4) (e (r 4))).2.1 - tq_Y (ξ0 272 (40 + (6 * g + r 4))).toInt.toNat (ξ0 272 (70 + (6 * g + r 4))).toInt) - (tq_Z (nS ξ' g (r 5) (e (r 5))).1 (nS ξ' g (r 5) (e (r 5))).2.1 - tq_Z (ξ0 272 (40 + (6 * g + r 5))).toInt.toNat (ξ0 272 (70 + (6 * g + r 5))).toInt) := by
    rw [c0, c1, em]
    simp only [nS_d]
    omega
  rw [← key] at v1 v3
  refine ⟨ξ', smN e 6, _, h1, h2, h4, h5, nx_lt hx0, by omega, ?_⟩
  rcases v3 with v3 | ⟨u, a0, a1, a4, a5, t10, q2, q3, q4, q5⟩
  · exact Or.inl (by omega)
  · refine Or.inr ?_
    have un : ∀ {i : Nat} {f : Nat} {b : Nat}, i < 6 → (if r i < 6 ∧ f < 6 then τ (r i) f else 0) = b → b ≠ 0 → f < 6 ∧ τ (r i) f = b := fun {i f b} hi w nb => by
      by_cases c : f < 6
      · rw [if_pos ⟨r6 i hi, c⟩] at w
        exact ⟨c, w⟩
      · rw [if_neg (fun z => c z.2)] at w
        exact absurd w.symm nb
    have upi : ∀ i, i < 6 → ξ0 272 (40 + (6 * g + r i)) ≠ 0 := fun i hi w => u i hi (by rw [w]; rfl)
    have pf := nPerf (c := c) (x0 := x0) (sn := sn) (τ := τ) r6 rr ri tl upi a0 a1 a4 a5 (un (by decide) t10 (by decide)).2
      ⟨(un (by decide) q2.1 (by decide)).2, (un (by decide) q2.2.1 (by decide)).2, by
        obtain ⟨w, wb, wt⟩ := q2.2.2
        exact ⟨w, wb, (un (by decide) wt (by decide)).2⟩⟩
      ⟨(un (by decide) q3.1 (by decide)).2, (un (by decide) q3.2.1 (by decide)).2, by
        obtain ⟨w, wb, wt⟩ := q3.2.2.1
        exact ⟨w, wb, (un (by decide) wt (by decide)).2⟩, fun s3 => by
        obtain ⟨w, wa, wb, wt⟩ := q3.2.2.2 s3
        exact ⟨w, wa, wb, (un (by decide) wt (by decide)).2⟩⟩
      ⟨(un (by decide) q4.1 (by decide)).2, by
        obtain ⟨w, wb, wt⟩ := q4.2
        exact ⟨w, wb, (un (by decide) wt (by decide)).2⟩⟩
      (fun f hf => by
        have := q5 f hf
        rw [if_pos ⟨r6 5 (by decide), hf⟩] at this
        exact this) k1 k2
    exact ⟨pf.1, fun k hk => by rw [← ri k hk]; exact upi _ (nRk_lt hk), pf.2⟩
