/-! the reference alone: a draw, a letter read -/
theorem nwLost {ξ : gM} {n c : Nat} (hn : n < 2147483648) (e9 : ξ 272 9 = nI n) (hc : c ≤ 99) (e4 : ξ 272 4 = nI c) : (c = 0 ∧ fX12_isLost ξ = some (0, ξ)) ∨ (c ≠ 0 ∧ ∃ ξ', fX12_isLost ξ = some ((if lq_d (lq_s n) < c then 1 else 0), ξ') ∧ (∀ a, a ≠ 272 → ξ' a = ξ a) ∧ (∀ i, i ≠ 6 → i ≠ 9 → ξ' 272 i = ξ 272 i) ∧ ξ' 272 9 = nI (lq_s n)) := by
  unfold fX12_isLost
  by_cases c4 : c = 0
  · refine Or.inl ⟨c4, ?_⟩
    rw [if_pos (by rw [e4, c4]; rfl)]
  · refine Or.inr ⟨c4, ?_⟩
    have c4' : ¬ ξ 272 4 = 0 := fun w => c4 (nI_inj (a := c) (b := 0) (by omega) (by decide) (e4.symm.trans w))
    rw [if_neg c4']
    have hq : (1103515245 * n + 12345) % 2147483648 = lq_s n := rfl
    generalize lq_s n = q at hq ⊢
    have q31 : q < 2147483648 := by omega
    rw [zLt_eq, draw2 (by omega) e9 hq, lN_i, zLt_eq]
    have g4 : gUp ξ 272 9 (nI (q)) 272 4 = ξ 272 4 := zUp_slot _ (by decide)
    have d2 : lN (q) / (64 : Int64) - lN (q) / (64 : Int64) / (100 : Int64) * (100 : Int64) = lN (q / 64 % 100) := by
      rw [show (64 : Int64) = lN 64 from rfl, pk_lDiv (by omega) (by decide) (by decide), show (100 : Int64) = lN 100 from rfl, pk_lRem (by omega) (by decide) (by decide)]
    have m100 : q / 64 % 100 < 100 := Nat.mod_lt _ (by decide)
    rw [g4, d2]
    have cc : (0 ≤ lg_cmp (lN (q / 64 % 100)) (ξ 272 4).toInt64) ↔ ¬ (q / 64 % 100 < c) := by
      rw [lgc, Int32.toInt_toInt64, pk_lT (by omega), e4, tN (by omega)]
      omega
    have fin : ∀ z : Int32, z = 0 ∨ z = 1 → ∃ ξ', fX12_isLost_n66 z (gUp ξ 272 9 (nI (q))) = some (z, ξ') ∧ (∀ a, a ≠ 272 → ξ' a = ξ a) ∧ (∀ i, i ≠ 6 → i ≠ 9 → ξ' 272 i = ξ 272 i) ∧ ξ' 272 9 = nI q := fun z hz => by
      have eb : fX12_isLost_n66 z (gUp ξ 272 9 (nI (q))) = some (z, gUp (gUp ξ 272 9 (nI (q))) 272 6 (ξ 272 6 + z)) := by
        unfold fX12_isLost_n66 fX12_flag
        have s6 : gUp ξ 272 9 (nI (q)) 272 6 = ξ 272 6 := zUp_slot _ (by decide)
        rcases hz with rfl | rfl
        · rw [if_pos rfl, zBd_some, s6]; rfl
        · rw [if_neg one_n0, zBd_some, s6]; rfl
      exact ⟨_, eb, fun a ha => by rw [zUp_ne _ ha, zUp_ne _ ha], fun i h1 h2 => by rw [zUp_slot _ h1, zUp_slot _ h2], by rw [zUp_slot _ (by decide), zUp_same]⟩
    unfold lq_d
    by_cases cl : q / 64 % 100 < c
    · rw [if_neg (fun w => cc.mp w cl), if_pos cl]; exact fin 1 (Or.inr rfl)
    · rw [if_pos (cc.mpr cl), if_neg cl]; exact fin 0 (Or.inl rfl)
def nB (g k : Nat) (ξ ξ' : gM) : Prop := (∀ a, a ≠ 267 → a ≠ 272 → ξ' a = ξ a) ∧ (∀ i, i ≠ 22 → ξ' 267 i = ξ 267 i) ∧ (∀ i, i < 245 → i ≠ 7 → i ≠ 40 + (6 * g + k) → i ≠ 70 + (6 * g + k) → i ≠ 100 + (6 * g + k) → i ≠ 140 + g → ξ' 272 i = ξ 272 i) ∧ (0 ≤ (ξ' 272 7).toInt ∧ (ξ' 272 7).toInt ≤ 60)
def nS (ξ : gM) (g k d : Nat) : Nat × Int × Nat := ((ξ 272 (40 + (6 * g + k))).toInt.toNat, (ξ 272 (70 + (6 * g + k))).toInt, d)
theorem nS_d (ξ : gM) (g k e : Nat) : (nS ξ g k e).2.2 = e := rfl
theorem nS_0 {ξ ξ' : gM} {g k e : Nat} : (nS ξ' g k (e + 0)).2.2 = (nS ξ g k e).2.2 := by rw [nS_d, nS_d, Nat.add_zero]
theorem nS_p {ξ ξ' : gM} {g k e : Nat} : (nS ξ' g k (e + 1)).2.2 = (nS ξ g k e).2.2 + 1 := by rw [nS_d, nS_d]
theorem nS_1 {ξ : gM} {g k e : Nat} (h : ξ 272 (40 + (6 * g + k)) = 1) : (nS ξ g k e).1 = 1 := by
  show (ξ 272 (40 + (6 * g + k))).toInt.toNat = 1
  rw [h]
  decide
theorem nS_2 {ξ : gM} {g k e : Nat} (h : ξ 272 (40 + (6 * g + k)) = 2) : (nS ξ g k e).1 = 2 := by
  show (ξ 272 (40 + (6 * g + k))).toInt.toNat = 2
  rw [h]
  decide
theorem nS_c {ξ : gM} {g k e : Nat} {v : Int32} (h : ξ 272 (70 + (6 * g + k)) = v) (b : 3 ≤ v.toInt) : 3 ≤ (nS ξ g k e).2.1 := by
  unfold nS
  rw [h]
  exact b
theorem LB.bd {g k w : Int32} {ξ ξ' : gM} (h : LB g k w ξ ξ') : 0 ≤ (ξ' 272 7).toInt ∧ (ξ' 272 7).toInt ≤ 60 := by
  obtain ⟨c, hc, -, e, -⟩ := h
  have b : (if c < 60 then c + 1 else 60) ≤ 60 := by split <;> omega
  rw [e, tN (by omega)]
  omega
theorem HB.nb {g k : Nat} {ξ ξ' : gM} (h : HB g k ξ ξ') : nB g k ξ ξ' ∧ ξ' 267 22 = ξ 267 22 + nI 1 := by
  obtain ⟨h1, h2, h3, h4, h5, h6, h7, h8⟩ := h
  refine ⟨⟨h1, fun i hi => by rw [h2]; rw [upd_at, if_neg hi], fun i i0 i1 i2 i3 i4 i5 => h7 i i0 i1 i2 i3 i4 i5, h8.bd⟩, ?_⟩
  rw [h2]
  rw [upd_at, if_pos rfl]; rfl
theorem WB3.nb {g k : Nat} {h v w : Int32} {ξ ξ' : gM} (hk : k < 6) (hg : g < 5) (a : WB3 g k h v w ξ ξ') (b7 : 0 ≤ (ξ 272 7).toInt ∧ (ξ 272 7).toInt ≤ 60) : nB g k ξ ξ' ∧ ξ' 267 22 = ξ 267 22 + nI 0 := by
  obtain ⟨h1, h2, h3, h4, h5⟩ := a
  have z : nI 0 = 0 := rfl
  refine ⟨⟨fun a _ ha => h1 a ha, fun i _ => by rw [h1 267 (by decide)], fun i i0 i1 i2 i3 i4 i5 => h2 i i2 i3 i4, ?_⟩, by rw [h1 267 (by decide), z, Int32.add_zero]⟩
  rw [h2 7 (by omega) (by omega) (by omega)]
  exact b7
theorem nB.tr {g k : Nat} {a b c : gM} (h : nB g k a b) (h' : nB g k b c) : nB g k a c := ⟨fun i h1 h2 => (h'.1 i h1 h2).trans (h.1 i h1 h2), fun i hi => (h'.2.1 i hi).trans (h.2.1 i hi), fun i i0 i1 i2 i3 i4 i5 => (h'.2.2.1 i i0 i1 i2 i3 i4 i5).trans (h.2.2.1 i i0 i1 i2 i3 i4 i5), h'.2.2.2⟩
/-- one letter, read by one that is up -/
theorem nwRead {ξ : gM} {g f k ct e : Nat} (hg : g < 5) (hf : f < 6) (hk : k < 6) (h3 : ξ 269 3 = nI ct) (hc : ct ≤ 24) (b7 : 0 ≤ (ξ 272 7).toInt ∧ (ξ 272 7).toInt ≤ 60) (h40 : ξ 272 (40 + (6 * g + k)) = 1 ∨ ξ 272 (40 + (6 * g + k)) = 2) (pb : 3 ≤ (pvm ξ g k).toInt) : ∃ ξ' d, fX12_reads (nI g) (nI f) (nI k) ξ = some ξ' ∧ nB g k ξ ξ' ∧ ξ' 267 22 = ξ 267 22 + nI d ∧ tq_l (if sg (ξ 275 f) (wv (ξ 269) (ξ 272 2) (ξ 272 (10 + (6 * g + k))) g k) (nI f) (nI k) = 1 then 1 else 2) (nS ξ g k e) (nS ξ' g k (e + d)) := by
  have gf : gIn (nI f) 6 = true := gI hf (by decide)
  have cf : (nI f).toNatClampNeg = f := nI_clamp (by omega)
  have two : ¬ (1 : Int32) = 2 := by decide
  have t1 : (1 : Int32).toInt.toNat = 1 := rfl
  have t2 : (2 : Int32).toInt.toNat = 2 := rfl
  unfold fX12_reads
  rw [mOf _ hg hk, zBd_some, mWord hg hk h3 hc, zBd_some]
  simp only [zCk, gf, cf, zBd_some, ↓reduceIte]
  rw [mStr, zBd_some, mDoes hg hk, zBd_some]
  have hz := sg01 (ξ 275 f) (wv (ξ 269) (ξ 272 2) (ξ 272 (10 + (6 * g + k))) g k) (nI f) (nI k)
  generalize sg (ξ 275 f) (wv (ξ 269) (ξ 272 2) (ξ 272 (10 + (6 * g + k))) g k) (nI f) (nI k) = z at hz ⊢
  rcases h40 with h40 | h40
  · rw [h40, if_neg two, if_pos rfl]
    have again : ∀ τ : Nat, τ = 1 ∨ τ = 2 → ∃ ξ' d, fX12_reads_n83 (nI g) (nI k) (nI (6 * g + k)) ξ = some ξ' ∧ nB g k ξ ξ' ∧ ξ' 267 22 = ξ 267 22 + nI d ∧ tq_l τ (nS ξ g k e) (nS ξ' g k (e + d)) := fun τ ht => by
      obtain ⟨ξ', e2, r⟩ := mN83 (ξ := ξ) hg hk h3 hc
      obtain ⟨n1, n2⟩ := r.nb hk hg b7
      refine ⟨ξ', 0, e2, n1, n2, ?_⟩
      have a1 : (nS ξ g k e).1 = 1 := nS_1 h40
      have a2 : (nS ξ' g k (e + 0)).1 = 1 := nS_1 (r.2.2.1.trans h40)
      have a3 : 3 ≤ (nS ξ' g k (e + 0)).2.1 := nS_c r.2.2.2.1 pb
      rcases ht with ht | ht
      · exact Or.inr (Or.inl ⟨ht, Or.inr ⟨a1, a2, a3, nS_0⟩⟩)
      · exact Or.inr (Or.inr ⟨ht, Or.inr (Or.inr ⟨a1, a2, a3, nS_0⟩)⟩)
    rcases hz with rfl | rfl
    · rw [if_pos rfl, if_neg (show ¬ (0 : Int32) = 1 by decide)]
      have i38 : (38 : Int32) + nI g = nI (38 + g) := nI_add 38 _
      have g38 : gIn (nI (38 + g)) 209 = true := gI (by omega) (by decide)
      have c38 : (nI (38 + g)).toNatClampNeg = 38 + g := nI_clamp (by omega)
      have i100 : (100 : Int32) + nI (6 * g + k) = nI (100 + (6 * g + k)) := nI_add 100 _
      have g100 : gIn (nI (100 + (6 * g + k))) 490 = true := gI (by omega) (by decide)
      have c100 : (nI (100 + (6 * g + k))).toNatClampNeg = 100 + (6 * g + k) := nI_clamp (by omega)
      simp only [i38, g38, c38, i100, g100, c100, ↓reduceIte]
      by_cases ck : ξ 269 (38 + g) = 1
      · rw [if_pos ck]; exact again 2 (Or.inr rfl)
      · rw [if_neg ck]
        -- behind the wish
        have late : ∀ χ : gM, (∀ a, a ≠ 272 → χ a = ξ a) → (∀ i, i ≠ 100 + (6 * g + k) → χ 272 i = ξ 272 i) → ∃ ξ' d, fX12_reads_n142 (nI g) (nI k) (nI (6 * g + k)) χ = some ξ' ∧ nB g k ξ ξ' ∧ ξ' 267 22 = ξ 267 22 + nI d ∧ tq_l 2 (nS ξ g k e) (nS ξ' g k (e + d)) := fun χ h1 h2 => by
          have b0 : nB g k ξ χ := ⟨fun a _ ha => h1 a ha, fun i _ => by rw [h1 267 (by decide)], fun i _ _ _ _ i4 _ => h2 i i4, by rw [h2 7 (by omega)]; exact b7⟩
          have p0 : pvm χ g k = pvm ξ g k := by unfold pvm; rw [h1 269 (by decide), h2 2 (by omega), h2 (10 + (6 * g + k)) (by omega)]
          have a1 : (nS ξ g k e).1 = 1 := nS_1 h40
          have i33 : (33 : Int32) + nI g = nI (33 + g) := nI_add 33 _
          have g33 : gIn (nI (33 + g)) 209 = true := gI (by omega) (by decide)
          have c33 : (nI (33 + g)).toNatClampNeg = 33 + g := nI_clamp (by omega)
          have i70 : (70 : Int32) + nI (6 * g + k) = nI (70 + (6 * g + k)) := nI_add 70 _
          have g70 : gIn (nI (70 + (6 * g + k))) 490 = true := gI (by omega) (by decide)
          have c70 : (nI (70 + (6 * g + k))).toNatClampNeg = 70 + (6 * g + k) := nI_clamp (by omega)
          have x3 : χ 269 3 = nI ct := by rw [h1 269 (by decide)]; exact h3
          unfold fX12_reads_n142
          simp only [zLt, zCk, i33, g33, c33, i70, i100, g70, g100, c70, c100, mPat hg hk x3 hc, zBd_some, ↓reduceIte]
          by_cases cd : χ 272 0 - (χ 272 (100 + (6 * g + k)) - 1) < χ 269 (33 + g)
          · rw [if_pos cd]
            have wb : WB3 g k 1 (pvm ξ g k) (χ 272 (100 + (6 * g + k))) χ (gUp χ 272 (70 + (6 * g + k)) (pvm ξ g k)) := ⟨fun a ha => zUp_ne _ ha, fun i _ j _ => zUp_slot _ j, by rw [zUp_slot _ (by omega), h2 _ (by omega)]; exact h40, zUp_same _ _ _ _, by rw [zUp_slot _ (by omega)]⟩
            obtain ⟨n1, n2⟩ := wb.nb hk hg b0.2.2.2
            refine ⟨_, 0, by rw [show pv (χ 269) g (wv (χ 269) (χ 272 2) (χ 272 (10 + (6 * g + k))) g k) = pvm χ g k from rfl, p0], b0.tr n1, by rw [n2, h1 267 (by decide)], ?_⟩
            exact Or.inr (Or.inr ⟨rfl, Or.inr (Or.inr ⟨a1, nS_1 wb.2.2.1, nS_c wb.2.2.2.1 pb, nS_0⟩)⟩)
          · rw [if_neg cd]
            obtain ⟨ξ', e1, hb⟩ := mHold (ξ := χ) hg hk b0.2.2.2
            rw [e1, zBd_some]
            obtain ⟨n1, n2⟩ := hb.nb
            refine ⟨ξ', 1, rfl, b0.tr n1, by rw [n2, h1 267 (by decide)], Or.inr (Or.inr ⟨rfl, Or.inr (Or.inl ⟨a1, nS_2 hb.2.2.1, nS_p⟩)⟩)⟩
        by_cases cw : ξ 272 (100 + (6 * g + k)) = 0
        · rw [if_pos cw, zLt_eq]
          exact late _ (fun a ha => zUp_ne _ ha) (fun i hi => zUp_slot _ hi)
        · rw [if_neg cw]
          exact late ξ (fun _ _ => rfl) (fun _ _ => rfl)
    · rw [if_neg one_n0, if_pos rfl]
      exact again 1 (Or.inl rfl)
  · rw [h40, if_pos rfl, if_neg one_n0]
    have a1 : (nS ξ g k e).1 = 2 := nS_2 h40
    rcases hz with rfl | rfl
    · rw [if_pos rfl, if_neg (show ¬ (0 : Int32) = 1 by decide)]
      exact ⟨ξ, 0, rfl, ⟨fun _ _ _ => rfl, fun _ _ => rfl, fun _ _ _ _ _ _ _ => rfl, b7⟩, by rw [show nI 0 = 0 from rfl, Int32.add_zero], Or.inr (Or.inr ⟨rfl, Or.inl ⟨a1, rfl⟩⟩)⟩
    · rw [if_neg one_n0, if_pos rfl, zLt_eq]
      have v7 : ∀ i, gUp ξ 267 22 (ξ 267 22 + 1) 272 i = ξ 272 i := fun i => by rw [zUp_ne _ (by decide)]
      have v9 : gUp ξ 267 22 (ξ 267 22 + 1) 269 = ξ 269 := zUp_ne _ (by decide)
      obtain ⟨ξ1, e1, w⟩ := mWait (ξ := gUp ξ 267 22 (ξ 267 22 + 1)) hg hk (by rw [v9]; exact h3) hc
      rw [e1, zBd_some]
      obtain ⟨w1, w2, w3, w4, w5⟩ := w
      have b71 : 0 ≤ (ξ1 272 7).toInt ∧ (ξ1 272 7).toInt ≤ 60 := by rw [w2 7 (by omega) (by omega) (by omega), v7]; exact b7
      obtain ⟨ξ2, e2, l1, l2, l3⟩ := mLogs (g := nI g) (k := nI k) (w := 1) b71
      rw [e2, zBd_some]
      have pp : pvm (gUp ξ 267 22 (ξ 267 22 + 1)) g k = pvm ξ g k := by unfold pvm; rw [v9, v7, v7]
      refine ⟨ξ2, 1, rfl, ⟨fun a h1 h2 => by rw [l1 a h2, w1 a h2, zUp_ne _ h1], fun i hi => by rw [l1 267 (by decide), w1 267 (by decide), zUp_slot _ hi], fun i i0 i1 i2 i3 i4 i5 => by rw [l2 i i0 i1, w2 i i2 i3 i4, v7], l3.bd⟩, by rw [l1 267 (by decide), w1 267 (by decide), zUp_same, show nI 1 = 1 from rfl], Or.inr (Or.inl ⟨rfl, Or.inl ⟨a1, ?_, ?_, nS_p⟩⟩)⟩
      · exact nS_1 ((l2 _ (by omega) (by omega)).trans w3)
      · exact nS_c (((l2 _ (by omega) (by omega)).trans w4).trans pp) pb
