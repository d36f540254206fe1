/-! skew and patience -/
def sv (o : Nat → Int32) (g : Nat) (w : Int32) : Int32 := ((o (28 + g)) * ((256 : Int32) - w)) / (256 : Int32)
def pv (o : Nat → Int32) (g : Nat) (w : Int32) : Int32 := ((3 : Int32) * (o (28 + g))) + sv o g w
theorem pv_b {o : Nat → Int32} {g : Nat} {w : Int32} (he : 1 ≤ (o (28 + g)).toInt ∧ (o (28 + g)).toInt ≤ 40) (hw : 1 ≤ w.toInt ∧ w.toInt ≤ 255) : (3 ≤ (pv o g w).toInt ∧ (pv o g w).toInt ≤ 160) ∧ 0 ≤ (sv o g w).toInt ∧ (sv o g w).toInt ≤ 40 := by
  obtain ⟨e, e1, e2, ee⟩ : ∃ e : Nat, 1 ≤ e ∧ e ≤ 40 ∧ o (28 + g) = nI e := ⟨(o (28 + g)).toInt.toNat, by omega, by omega, nI_of' (by omega)⟩
  obtain ⟨n, n1, n2, en⟩ : ∃ n : Nat, 1 ≤ n ∧ n ≤ 255 ∧ w = nI n := ⟨w.toInt.toNat, by omega, by omega, nI_of' (by omega)⟩
  have p : e * (256 - n) ≤ 40 * 255 := Nat.mul_le_mul e2 (by omega)
  have s1 : sv o g w = nI (e * (256 - n) / 256) := by
    unfold sv
    rw [ee, en, show (256 : Int32) = nI 256 from rfl, pk_sub (by omega), pk_mul, pk_div (by omega) (by decide) (by decide)]
  have s2 : pv o g w = nI (3 * e + e * (256 - n) / 256) := by
    unfold pv
    rw [s1, ee, show (3 : Int32) = nI 3 from rfl, pk_mul, nI_add]
  have d : e * (256 - n) / 256 ≤ 40 := by omega
  rw [s1, s2, tN (by omega), tN (by omega)]
  omega
theorem mSkew {ξ : gM} {g k c : Nat} (hg : g < 5) (hk : k < 6) (h3 : ξ 269 3 = nI c) (hc : c ≤ 24) : fX12_skewOf (nI g) (nI k) ξ = some (sv (ξ 269) g (wv (ξ 269) (ξ 272 2) (ξ 272 (10 + (6 * g + k))) g k)) := by
  unfold fX12_skewOf sv
  rw [mWord hg hk h3 hc, zBd_some]
  simp only [zCk]
  rw [if_pos (ig (x := 28) (b := 28) (by omega) (by decide) rfl), ix (x := 28) (b := 28) (by omega) rfl]
theorem mPat {ξ : gM} {g k c : Nat} (hg : g < 5) (hk : k < 6) (h3 : ξ 269 3 = nI c) (hc : c ≤ 24) : fX12_patienceOf (nI g) (nI k) ξ = some (pv (ξ 269) g (wv (ξ 269) (ξ 272 2) (ξ 272 (10 + (6 * g + k))) g k)) := by
  unfold fX12_patienceOf pv
  rw [mSkew hg hk h3 hc, zBd_some]
  simp only [zCk]
  rw [if_pos (ig (x := 28) (b := 28) (by omega) (by decide) rfl), ix (x := 28) (b := 28) (by omega) rfl]
/-! the log, the class's -/
theorem zUp_row (μ : gM) (a i : Nat) (v : Int32) : gUp μ a i v a = upd (μ a) i v := by
  unfold gUp va_up
  rw [if_pos rfl]
def LA (p : Nat) (t g k w : Int32) (μ μ' : gM) : Prop := ∃ n c : Nat, n < 60 ∧ c ≤ 60 ∧ μ p 1 = nI n ∧ μ p 0 = nI c ∧ μ' p 1 = nI ((n + 1) % 60) ∧ μ' p 0 = nI (if c < 60 then c + 1 else 60) ∧ μ' (p + 1) (4 * ((n + 1) % 60)) = t ∧ μ' (p + 1) (4 * ((n + 1) % 60) + 1) = g ∧ μ' (p + 1) (4 * ((n + 1) % 60) + 2) = k ∧ μ' (p + 1) (4 * ((n + 1) % 60) + 3) = w ∧ ∀ j, j < 4 * ((n + 1) % 60) ∨ 4 * ((n + 1) % 60) + 4 ≤ j → μ' (p + 1) j = μ (p + 1) j
theorem cAdd46 {p n : Nat} {t g k w z0 : Int32} {ν : gM} (hn : n < 60) (h1 : ν p 1 = nI n) : ∃ μ', fX0_add_n46 p t g k w z0 ν = some μ' ∧ (∀ a, a ≠ p → a ≠ p + 1 → μ' a = ν a) ∧ μ' p 1 = nI n ∧ μ' p 0 = z0 ∧ μ' (p + 1) (4 * n) = t ∧ μ' (p + 1) (4 * n + 1) = g ∧ μ' (p + 1) (4 * n + 2) = k ∧ μ' (p + 1) (4 * n + 3) = w ∧ ∀ j, j < 4 * n ∨ 4 * n + 4 ≤ j → μ' (p + 1) j = ν (p + 1) j := by
  unfold fX0_add_n46
  simp only [zLt, zCk]
  have e1 : gUp ν p 0 z0 p 1 = nI n := by rw [zUp_slot _ (by decide), h1]
  have e0 : nI n * (4 : Int32) = nI (4 * n) := by rw [show (4 : Int32) = nI 4 from rfl, pk_mul, Nat.mul_comm]
  have a1 : nI (4 * n) + (1 : Int32) = nI (4 * n + 1) := nI_1 _
  have a2 : nI (4 * n) + (2 : Int32) = nI (4 * n + 2) := nI_add _ 2
  have a3 : nI (4 * n) + (3 : Int32) = nI (4 * n + 3) := nI_add _ 3
  rw [e1, e0, a1, a2, a3, if_pos (zIn (tN (by omega)) (by omega) (by omega)), if_pos (zIn (tN (by omega)) (by omega) (by omega)), if_pos (zIn (tN (by omega)) (by omega) (by omega)), if_pos (zIn (tN (by omega)) (by omega) (by omega)), nI_clamp (by omega), nI_clamp (by omega), nI_clamp (by omega), nI_clamp (by omega)]
  have pp : p ≠ p + 1 := by omega
  refine ⟨_, rfl, fun a h1 h2 => ?_, ?_, ?_, ?_, ?_, ?_, ?_, fun j hj => ?_⟩
  · rw [zUp_ne _ h2, zUp_ne _ h2, zUp_ne _ h2, zUp_ne _ h2, zUp_ne _ h1]
  · rw [zUp_ne _ pp, zUp_ne _ pp, zUp_ne _ pp, zUp_ne _ pp, e1]
  · rw [zUp_ne _ pp, zUp_ne _ pp, zUp_ne _ pp, zUp_ne _ pp, zUp_same]
  · rw [zUp_slot _ (by omega), zUp_slot _ (by omega), zUp_slot _ (by omega), zUp_same]
  · rw [zUp_slot _ (by omega), zUp_slot _ (by omega), zUp_same]
  · rw [zUp_slot _ (by omega), zUp_same]
  · rw [zUp_same]
  · rw [zUp_slot _ (by omega), zUp_slot _ (by omega), zUp_slot _ (by omega), zUp_slot _ (by omega), zUp_ne _ (Ne.symm pp)]
theorem cAdd {p : Nat} {t g k w : Int32} {μ : gM} (b0 : 0 ≤ (μ p 0).toInt ∧ (μ p 0).toInt ≤ 60) (b1 : 0 ≤ (μ p 1).toInt ∧ (μ p 1).toInt ≤ 59) : ∃ μ', fX0_add p t g k w μ = some μ' ∧ (∀ a, a ≠ p → a ≠ p + 1 → μ' a = μ a) ∧ LA p t g k w μ μ' := by
  obtain ⟨n, hn, en⟩ : ∃ n : Nat, n < 60 ∧ μ p 1 = nI n := ⟨(μ p 1).toInt.toNat, by omega, nI_of' (by omega)⟩
  obtain ⟨c, hc, ec⟩ : ∃ c : Nat, c ≤ 60 ∧ μ p 0 = nI c := ⟨(μ p 0).toInt.toNat, by omega, nI_of' (by omega)⟩
  have t60 : (60 : Int32) = nI 60 := rfl
  have fin : ∀ z : Int32, z = nI ((n + 1) % 60) → ∃ μ', fX0_add_n22 p t g k w z μ = some μ' ∧ (∀ a, a ≠ p → a ≠ p + 1 → μ' a = μ a) ∧ LA p t g k w μ μ' := fun z hz => by
    unfold fX0_add_n22
    simp only [zLt]
    have e0 : gUp μ p 1 z p 0 = nI c := by rw [zUp_slot _ (by decide), ec]
    have e1 : gUp μ p 1 z p 1 = nI ((n + 1) % 60) := by rw [zUp_same, hz]
    have m60 : (n + 1) % 60 < 60 := Nat.mod_lt _ (by decide)
    have go : ∀ y : Int32, y = nI (if c < 60 then c + 1 else 60) → ∃ μ', fX0_add_n46 p t g k w y (gUp μ p 1 z) = some μ' ∧ (∀ a, a ≠ p → a ≠ p + 1 → μ' a = μ a) ∧ LA p t g k w μ μ' := fun y hy => by
      obtain ⟨μ', q0, q1, q2, q3, q4, q5, q6, q7, q8⟩ := cAdd46 (t := t) (g := g) (k := k) (w := w) (z0 := y) m60 e1
      exact ⟨μ', q0, fun a h1 h2 => by rw [q1 a h1 h2, zUp_ne _ h1], n, c, hn, hc, en, ec, q2, by rw [q3, hy], q4, q5, q6, q7, fun j hj => by rw [q8 j hj, zUp_ne _ (by omega)]⟩
    rw [e0]
    by_cases cc : c < 60
    · rw [if_neg (by rw [t60, nI_leI (by decide) (by omega)]; omega)]
      exact go _ (by rw [if_pos cc]; exact nI_1 c)
    · rw [if_pos (by rw [t60, nI_leI (by decide) (by omega)]; omega)]
      exact go _ (by rw [if_neg cc]; rfl)
  unfold fX0_add
  rw [en, show nI n + (1 : Int32) = nI (n + 1) from nI_1 n]
  by_cases cc : n + 1 = 60
  · rw [if_pos (by rw [t60, nI_leI (by decide) (by omega)]; omega)]
    exact fin _ (by rw [cc]; rfl)
  · rw [if_neg (by rw [t60, nI_leI (by decide) (by omega)]; omega)]
    exact fin _ (by rw [Nat.mod_eq_of_lt (by omega)])
/-! the log, the reference's -/
def LB (g k w : Int32) (ξ ξ' : gM) : Prop := ∃ c : Nat, c ≤ 60 ∧ ξ 272 7 = nI c ∧ ξ' 272 7 = nI (if c < 60 then c + 1 else 60) ∧ ξ' 272 245 = ξ 272 0 ∧ ξ' 272 246 = g ∧ ξ' 272 247 = k ∧ ξ' 272 248 = w ∧ ∀ j, 4 ≤ j → j < 4 * (if c < 60 then c + 1 else 60) → ξ' 272 (245 + j) = ξ 272 (245 + j - 4)
theorem mLogs_l {g k w z : Int32} : ∀ (m j : Nat) (y : Int32) (ζ : gM), y = nI j → 3 ≤ j → j < 240 → j < 3 + m → ∃ ξ', fX12_logs_l24 m g k w z y ζ = some ξ' ∧ (∀ a, a ≠ 272 → ξ' a = ζ a) ∧ ξ' 272 7 = z ∧ ξ' 272 245 = ζ 272 0 ∧ ξ' 272 246 = g ∧ ξ' 272 247 = k ∧ ξ' 272 248 = w ∧ (∀ i, 4 ≤ i → i ≤ j → ξ' 272 (245 + i) = ζ 272 (245 + i - 4)) ∧ (∀ i, 4 ≤ i → j < i → ξ' 272 (245 + i) = ζ 272 (245 + i)) ∧ ∀ i, i < 245 → i ≠ 7 → ξ' 272 i = ζ 272 i := by
  intro m
  induction m with
  | zero => intro j y ζ hy h3 h4 gm; exact absurd gm (by omega)
  | succ m ih =>
    intro j y ζ hy h3 h4 gm
    subst hy
    rw [fX12_logs_l24]
    have t4 : (4 : Int32) = nI 4 := rfl
    by_cases c : j = 3
    · subst c
      rw [if_pos (by decide)]
      simp only [zLt]
      refine ⟨_, rfl, fun a ha => ?_, ?_, ?_, ?_, ?_, ?_, fun i h1 h2 => absurd h1 (by omega), fun i h1 h2 => ?_, fun i h1 h2 => ?_⟩
      · rw [zUp_ne _ ha, zUp_ne _ ha, zUp_ne _ ha, zUp_ne _ ha, zUp_ne _ ha]
      · rw [zUp_same]
      · rw [zUp_slot _ (by decide), zUp_slot _ (by decide), zUp_slot _ (by decide), zUp_slot _ (by decide), zUp_same]
      · rw [zUp_slot _ (by decide), zUp_slot _ (by decide), zUp_slot _ (by decide), zUp_same]
      · rw [zUp_slot _ (by decide), zUp_slot _ (by decide), zUp_same]
      · rw [zUp_slot _ (by decide), zUp_same]
      · rw [zUp_slot _ (by omega), zUp_slot _ (by omega), zUp_slot _ (by omega), zUp_slot _ (by omega), zUp_slot _ (by omega)]
      · rw [zUp_slot _ h2, zUp_slot _ (by omega), zUp_slot _ (by omega), zUp_slot _ (by omega), zUp_slot _ (by omega)]
    · rw [if_neg (by rw [t4, nI_ltI (by omega) (by decide)]; omega)]
      have i1 : (245 : Int32) + nI j = nI (245 + j) := nI_add 245 j
      have i2 : nI (245 + j) - (4 : Int32) = nI (245 + j - 4) := pk_sub (b := 4) (by omega)
      simp only [zLt, zCk]
      rw [i1, i2, if_pos (zIn (tN (by omega)) (by omega) (by omega)), if_pos (zIn (tN (by omega)) (by omega) (by omega)), nI_clamp (by omega), nI_clamp (by omega)]
      obtain ⟨ξ', q0, q1, q2, q3, q4, q5, q6, q7, q8, q9⟩ := ih (j - 1) (nI j + (-1 : Int32)) (gUp ζ 272 (245 + j) (ζ 272 (245 + j - 4))) (by
        obtain ⟨j', rfl⟩ : ∃ j', j = j' + 1 := ⟨j - 1, by omega⟩
        exact pk_m1 j') (by omega) (by omega) (by omega)
      refine ⟨ξ', q0, fun a ha => by rw [q1 a ha, zUp_ne _ ha], q2, by rw [q3, zUp_slot _ (by omega)], q4, q5, q6, fun i h1 h2 => ?_, fun i h1 h2 => by rw [q8 i h1 (by omega), zUp_slot _ (by omega)], fun i h1 h2 => by rw [q9 i h1 h2, zUp_slot _ (by omega)]⟩
      by_cases e : i = j
      · subst e
        rw [q8 i h1 (by omega), zUp_same]
      · rw [q7 i h1 (by omega), zUp_slot _ (by omega)]
theorem mLogs {g k w : Int32} {ξ : gM} (b : 0 ≤ (ξ 272 7).toInt ∧ (ξ 272 7).toInt ≤ 60) : ∃ ξ', fX12_logs g k w ξ = some ξ' ∧ (∀ a, a ≠ 272 → ξ' a = ξ a) ∧ (∀ i, i < 245 → i ≠ 7 → ξ' 272 i = ξ 272 i) ∧ LB g k w ξ ξ' := by
  obtain ⟨c, hc, ec⟩ : ∃ c : Nat, c ≤ 60 ∧ ξ 272 7 = nI c := ⟨(ξ 272 7).toInt.toNat, by omega, nI_of' (by omega)⟩
  have t60 : (60 : Int32) = nI 60 := rfl
  have el : fX12_lesser (nI c + 1) 60 ξ = some (nI (if c < 60 then c + 1 else 60)) := by
    unfold fX12_lesser
    rw [show nI c + (1 : Int32) = nI (c + 1) from nI_1 c, t60]
    by_cases cc : c < 60
    · rw [if_pos cc]
      by_cases c2 : c + 1 = 60
      · rw [if_pos (nI_le (by omega) (by omega)), c2]
      · rw [if_neg (by rw [nI_leI (by decide) (by omega)]; omega)]
    · rw [if_neg cc, if_pos (nI_le (by omega) (by omega))]
  unfold fX12_logs
  rw [ec, el, zBd_some, zLt_eq]
  have m1 : 1 ≤ (if c < 60 then c + 1 else 60) ∧ (if c < 60 then c + 1 else 60) ≤ 60 := by split <;> omega
  have ej : (4 : Int32) * nI (if c < 60 then c + 1 else 60) - (1 : Int32) = nI (4 * (if c < 60 then c + 1 else 60) - 1) := by
    rw [show (4 : Int32) = nI 4 from rfl, pk_mul, show (1 : Int32) = nI 1 from rfl, pk_sub (by omega)]
  rw [ej]
  obtain ⟨ξ', q0, q1, q2, q3, q4, q5, q6, q7, q8, q9⟩ := mLogs_l (g := g) (k := k) (w := w) (z := nI (if c < 60 then c + 1 else 60)) 100000 (4 * (if c < 60 then c + 1 else 60) - 1) _ ξ rfl (by omega) (by omega) (by omega)
  exact ⟨ξ', q0, q1, q9, c, hc, ec, q2, q3, q4, q5, q6, fun j h1 h2 => q7 j h1 (by omega)⟩
/-- both logs alike -/
def LOG (s : Nat) (μ ξ : gM) : Prop := ∃ n c : Nat, n < 60 ∧ c ≤ 60 ∧ μ (s + 3) 1 = nI n ∧ μ (s + 3) 0 = nI c ∧ ξ 272 7 = nI c ∧ ∀ i j, i < c → j < 4 → μ (s + 3 + 1) (4 * ((n + 60 - i) % 60) + j) = ξ 272 (245 + 4 * i + j)
theorem LOG.add {s : Nat} {t g k w : Int32} {μ ξ μ' ξ' : gM} (h : LOG s μ ξ) (ht : t = ξ 272 0) (a : LA (s + 3) t g k w μ μ') (b : LB g k w ξ ξ') : LOG s μ' ξ' := by
  obtain ⟨n, c, hn, hc, e1, e0, e7, hl⟩ := h
  obtain ⟨n', c', hn', hc', a1, a0, a3, a4, a5, a6, a7, a8, a9⟩ := a
  have en : n' = n := nI_inj (by omega) (by omega) (a1.symm.trans e1)
  have ec : c' = c := nI_inj (by omega) (by omega) (a0.symm.trans e0)
  subst en ec
  obtain ⟨d, hd, b0, b1, b2, b3, b4, b5, b6⟩ := b
  have ed : d = c' := nI_inj (by omega) (by omega) (b0.symm.trans e7)
  subst ed
  have m60 : (n' + 1) % 60 < 60 := Nat.mod_lt _ (by decide)
  refine ⟨(n' + 1) % 60, _, m60, by split <;> omega, a3, a4, b1, fun i j hi hj => ?_⟩
  have hi60 : i < 60 := by
    have : (if d < 60 then d + 1 else 60) ≤ 60 := by split <;> omega
    omega
  by_cases c0 : i = 0
  · subst c0
    rw [show ((n' + 1) % 60 + 60 - 0) % 60 = (n' + 1) % 60 by omega]
    have : j = 0 ∨ j = 1 ∨ j = 2 ∨ j = 3 := by omega
    rcases this with rfl | rfl | rfl | rfl
    · exact a5.trans (ht.trans b2.symm)
    · exact a6.trans b3.symm
    · exact a7.trans b4.symm
    · exact a8.trans b5.symm
  · have r : ((n' + 1) % 60 + 60 - i) % 60 = (n' + 60 - (i - 1)) % 60 := by omega
    have r2 : (n' + 60 - (i - 1)) % 60 ≠ (n' + 1) % 60 := by omega
    rw [r, a9 _ (by omega), hl (i - 1) j (by split at hi <;> omega) hj, show 245 + 4 * i + j = 245 + (4 * i + j) by omega, b6 (4 * i + j) (by omega) (by omega)]
    congr 1
    omega
theorem LA.cg {p : Nat} {t g k w : Int32} {μ ν μ' : gM} (h : LA p t g k w ν μ') (e1 : ν p = μ p) (e2 : ν (p + 1) = μ (p + 1)) : LA p t g k w μ μ' := by
  unfold LA at *
  rw [e1, e2] at h
  exact h
theorem LA.cg' {p : Nat} {t g k w : Int32} {μ ν μ' : gM} (h : LA p t g k w μ ν) (e1 : μ' p = ν p) (e2 : μ' (p + 1) = ν (p + 1)) : LA p t g k w μ μ' := by
  unfold LA at *
  rw [e1, e2]
  exact h
theorem LB.cg {g k w : Int32} {ξ ζ ξ' : gM} (h : LB g k w ζ ξ') (e0 : ζ 272 0 = ξ 272 0) (e7 : ζ 272 7 = ξ 272 7) (el : ∀ i, 245 ≤ i → ζ 272 i = ξ 272 i) : LB g k w ξ ξ' := by
  obtain ⟨c, hc, b0, b1, b2, b3, b4, b5, b6⟩ := h
  exact ⟨c, hc, e7.symm.trans b0, b1, b2.trans e0, b3, b4, b5, fun j h1 h2 => by rw [b6 j h1 h2, el _ (by omega)]⟩
theorem LB.cg' {g k w : Int32} {ξ ζ ξ' : gM} (h : LB g k w ξ ζ) (e7 : ξ' 272 7 = ζ 272 7) (el : ∀ i, 245 ≤ i → ξ' 272 i = ζ 272 i) : LB g k w ξ ξ' := by
  obtain ⟨c, hc, b0, b1, b2, b3, b4, b5, b6⟩ := h
  exact ⟨c, hc, b0, e7.trans b1, (el _ (by omega)).trans b2, (el _ (by omega)).trans b3, (el _ (by omega)).trans b4, (el _ (by omega)).trans b5, fun j h1 h2 => (el _ (by omega)).trans (b6 j h1 h2)⟩
theorem LOG.cg {s : Nat} {μ ξ μ' ξ' : gM} (h : LOG s μ ξ) (e1 : μ' (s + 3) = μ (s + 3)) (e2 : μ' (s + 3 + 1) = μ (s + 3 + 1)) (e7 : ξ' 272 7 = ξ 272 7) (el : ∀ i, 245 ≤ i → ξ' 272 i = ξ 272 i) : LOG s μ' ξ' := by
  obtain ⟨n, c, hn, hc, q1, q0, q7, hl⟩ := h
  exact ⟨n, c, hn, hc, by rw [e1]; exact q1, by rw [e1]; exact q0, by rw [e7]; exact q7, fun i j hi hj => by rw [e2, el _ (by omega)]; exact hl i j hi hj⟩
theorem LA.b {p : Nat} {t g k w : Int32} {μ μ' : gM} (h : LA p t g k w μ μ') : (0 ≤ (μ' p 0).toInt ∧ (μ' p 0).toInt ≤ 60) ∧ 0 ≤ (μ' p 1).toInt ∧ (μ' p 1).toInt ≤ 59 := by
  obtain ⟨n, c, hn, hc, -, -, e1, e0, -⟩ := h
  have m60 : (n + 1) % 60 < 60 := Nat.mod_lt _ (by decide)
  have m1 : (if c < 60 then c + 1 else 60) ≤ 60 := by split <;> omega
  rw [e0, e1, tN (by omega), tN (by omega)]
  omega
theorem LB.b {g k w : Int32} {ξ ξ' : gM} (h : LB g k w ξ ξ') : 0 ≤ (ξ' 272 7).toInt ∧ (ξ' 272 7).toInt ≤ 60 := by
  obtain ⟨c, hc, -, e, -⟩ := h
  have m1 : (if c < 60 then c + 1 else 60) ≤ 60 := by split <;> omega
  rw [e, tN (by omega)]
  omega
