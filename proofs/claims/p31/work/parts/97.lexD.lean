/-! the reference's numbers and faults -/
def pF (i : Nat) : Prop := i = 4 ∨ i = 5 ∨ i = 6 ∨ i = 7 ∨ i = 10 ∨ i = 11 ∨ i = 12 ∨ i = 16
theorem mFail {k p : Int32} {ξ : gM} (hb : ξ 267 6 = 0) : zH (fX12_fail k p ξ) (fun ζ => ζ 267 6 = k ∧ ζ 267 7 = p ∧ MF (fun i => i = 6 ∨ i = 7) ξ ζ) := by
  unfold fX12_fail
  rw [if_pos hb]
  refine zH_lt (fun μ1 e1 => ?_)
  refine zH_lt (fun μ2 e2 => zH_some ⟨by rw [e2, zUp_slot _ (by decide), e1, zUp_same], by rw [e2, zUp_same], ?_⟩)
  rw [e2, e1]
  exact (MF.up _ (Or.inl rfl)).tr (MF.up _ (Or.inr rfl)) (fun _ w => w) (fun _ w => w)
theorem mUnlike {b : Nat → Nat} {n p : Nat} {ξ : gM} (h : MT b n ξ) (ha : (ξ 267 4).toInt = p) (hn : p ≤ n) (hb : ξ 267 6 = 0) : zH (fX12_unlike ξ) (fun ζ => ∃ s, Skp b n p s ∧ ζ 267 6 = 1 ∧ (ζ 267 7).toInt = s ∧ MF pF ξ ζ ∧ (ζ 267 4).toInt = s) := by
  unfold fX12_unlike
  refine zH_bp (mNext h ha hn) (fun x1 μ2 p2 => ?_)
  obtain ⟨s, k1, k2, k3, k4⟩ := p2
  have k2 : x1.toInt = s := k2
  have k3 : (μ2 267 4).toInt = s := k3
  have k4 : MF p4 ξ μ2 := k4
  refine zH_bd (mFail (by rw [k4.2 6 (by unfold p4; omega)]; exact hb)) (fun ζ pζ => zH_some ⟨s, k1, pζ.1, by rw [pζ.2.1]; exact k2, k4.tr pζ.2.2 (fun i w => Or.inl w) (fun i w => by unfold pF; omega), by rw [pζ.2.2.2 4 (by omega)]; exact k3⟩)
theorem mFine1 {ξ : gM} (hb : ξ 267 6 = 0) : fX12_isFine ξ = some 1 := by unfold fX12_isFine; rw [if_pos hb]
theorem mFine0 {ξ : gM} (hb : ξ 267 6 ≠ 0) : fX12_isFine ξ = some 0 := by unfold fX12_isFine; rw [if_neg hb]
theorem zBd_some {α β : Type} {a : α} {f : α → Option β} : zBd (some a) f = f a := rfl
theorem zBp_some {β : Type} {a : Int32} {μ : gM} {f : Int32 → gM → Option β} : zBp (some (a, μ)) f = f a μ := rfl
def NumQ (b : Nat → Nat) (n s e : Nat) (a1 a2 : Int32) (ξ : gM) (r : Int32 × gM) : Prop := r.1.toInt = ((eN b s (e - s) : Nat) : Int) ∧ (r.2 267 4).toInt = e ∧ (r.2 267 5).toInt = e ∧ ((a1.toInt ≤ r.1.toInt ∧ r.1.toInt ≤ a2.toInt ∧ r.2 267 6 = 0) ∨ (¬ (a1.toInt ≤ r.1.toInt ∧ r.1.toInt ≤ a2.toInt) ∧ r.2 267 6 = 4 ∧ (r.2 267 7).toInt = s)) ∧ MF pF ξ r.2
theorem mNum_l75 {b : Nat → Nat} {n s l : Nat} {a1 a2 : Int32} (hl : l ≤ 4) (hd : wD b s l) (hln : s + l ≤ n) : ∀ (m k : Nat) (y3 y4 y5 y6 : Int32) (ξ : gM), MT b n ξ → ξ 267 6 = 0 → y3.toInt = s → y4.toInt = l → y6.toInt = k → k ≤ l → y5 = nI (eN b s k) → l < k + m → zH (fX12_number_l75 m a1 a2 y3 y4 y5 y6 ξ) (NumQ b n s (s + l) a1 a2 ξ) := by
  intro m
  induction m with
  | zero =>
    intro k y3 y4 y5 y6 ξ h hb h3 h4 h6 hk h5 gm
    exact absurd gm (by omega)
  | succ m ih =>
    intro k y3 y4 y5 y6 ξ h hb h3 h4 h6 hk h5 gm
    have hn5 := h.2.1
    rw [fX12_number_l75]
    have ev := eN_lt k s (fun i a c => hd i a (by omega))
    have pv := p10 (l := k) (by omega)
    have t5 : y5.toInt = ((eN b s k : Nat) : Int) := by rw [h5]; exact nI_toInt (by omega)
    refine zH_lec h4 h6 (fun c => ?_) (fun c => ?_)
    · have ek : k = l := by omega
      subst ek
      have q := iA h3 h4 (by omega) (by omega)
      refine zH_lt (fun μ7 e7 => ?_)
      refine zH_lt (fun μ8 e8 => ?_)
      have g8 : MF pF ξ μ8 := by
        rw [e8, e7]
        exact (MF.up _ (Or.inl rfl)).tr (MF.up _ (Or.inr (Or.inl rfl))) (fun _ w => w) (fun _ w => w)
      have a7 : (μ7 267 4).toInt = ((s + k : Nat) : Int) := by rw [e7, zUp_same, q]; omega
      have a8 : (μ8 267 4).toInt = ((s + k : Nat) : Int) := by rw [e8, zUp_slot _ (by decide)]; exact a7
      have d8 : (μ8 267 5).toInt = ((s + k : Nat) : Int) := by rw [e8, zUp_same]; exact a7
      have b8 : μ8 267 6 = 0 := by rw [e8, zUp_slot _ (by decide), e7, zUp_slot _ (by decide)]; exact hb
      have sk : s + k - s = k := by omega
      refine zH_bd (tX12_isIn (i64 (rfl : y5.toInt = _)) (i64 (rfl : a1.toInt = _)) (i64 (rfl : a2.toInt = _))) (fun x9 p9 => ?_)
      refine zH_eqc (rfl : x9.toInt = _) (iL (0) (0) rfl) (fun _ w => ?_) (fun _ w => ?_)
      · have w := p9.2.2 w
        refine zH_bd (mFail b8) (fun ζ pζ => zH_some ⟨by rw [sk]; exact t5, ?_, ?_, Or.inr ⟨fun v => ?_, pζ.1, (congrArg Int32.toInt pζ.2.1).trans h3⟩, g8.tr pζ.2.2 (fun _ w => w) (fun i w => by unfold pF; omega)⟩)
        · show (ζ 267 4).toInt = _
          rw [pζ.2.2.2 4 (by decide)]; exact a8
        · show (ζ 267 5).toInt = _
          rw [pζ.2.2.2 5 (by decide)]; exact d8
        · have v : a1.toInt ≤ y5.toInt ∧ y5.toInt ≤ a2.toInt := v
          omega
      · have w := p9.2.1 (by have := p9.1; omega)
        exact zH_some ⟨by rw [sk]; exact t5, a8, d8, Or.inl ⟨w.1, w.2, b8⟩, g8⟩
    · have q := iA h3 h6 (by omega) (by omega)
      have qk : (y3 + y6).toInt = ((s + k : Nat) : Int) := q.trans (by omega)
      refine zH_ck (zIn qk (by omega) (by omega)) ?_
      rw [cl_of qk]
      have hd0 := hd (s + k) (by omega) (by omega)
      unfold isD at hd0
      have hb0 := (h.2.2 (s + k) (by omega)).1 (by omega)
      refine zH_lt (fun x13 e13 => ?_)
      refine zH_lt (fun x14 e14 => ?_)
      have q13 : x13 = nI (eN b s (k + 1)) := by
        refine nI_of' ?_
        rw [e13, iS (iA (iM (iL (10) (10) rfl) t5 (by omega) (by omega)) hb0 (by omega) (by omega)) (iL (48) (48) rfl) (by omega) (by omega), eN]
        omega
      have q14 : x14.toInt = ((k + 1 : Nat) : Int) := by rw [e14, iA h6 (iL (1) (1) rfl) (by omega) (by omega)]; omega
      exact ih (k + 1) y3 y4 x13 x14 ξ h hb h3 h4 q14 (by omega) q13 (by omega)
def NQ2 (b : Nat → Nat) (n s : Nat) (g : Int) (a1 a2 : Int32) (ξ : gM) (r : Int32 × gM) : Prop := ∃ e, Rn isD b n s e ∧ (((s < e ∧ e ≤ s + 4 ∧ (s : Int) ≠ g) ∧ NumQ b n s e a1 a2 ξ r) ∨ (¬ (s < e ∧ e ≤ s + 4 ∧ (s : Int) ≠ g) ∧ r.2 267 6 = 1 ∧ (r.2 267 7).toInt = s ∧ MF pF ξ r.2 ∧ (r.2 267 4).toInt = s))
theorem mNum_l13 {b : Nat → Nat} {n s : Nat} {a1 a2 : Int32} : ∀ (m l : Nat) (y3 y4 : Int32) (ξ : gM), MT b n ξ → ξ 267 6 = 0 → (ξ 267 4).toInt = s → (s < n → ¬ isW (b s)) → y3.toInt = s → y4.toInt = l → s + l ≤ n → wD b s l → n < s + l + m → zH (fX12_number_l13 m a1 a2 y3 y4 ξ) (NQ2 b n s (ξ 267 5).toInt a1 a2 ξ) := by
  intro m
  induction m with
  | zero =>
    intro l y3 y4 ξ h hb ha hs h3 h4 hl hd gm
    exact absurd gm (by omega)
  | succ m ih =>
    intro l y3 y4 ξ h hb ha hs h3 h4 hl hd gm
    have hn5 := h.2.1
    rw [fX12_number_l13]
    have q := iA h3 h4 (by omega) (by omega)
    have qk : (y3 + y4).toInt = ((s + l : Nat) : Int) := q.trans (by omega)
    refine zH_bd (mDigit h qk) (fun x4 p4 => ?_)
    refine zH_ite (fun c => ?_) (fun c => ?_)
    · have rn : Rn isD b n s (s + l) := ⟨by omega, hl, fun i a d => hd i a d, fun w v => by
        rcases p4 with p | p
        · rw [p.1] at c; exact absurd c (by decide)
        · exact p.2 ⟨w, v⟩⟩
      rw [mFine1 hb, zBd_some, if_neg (show ¬ (1 : Int32) = 0 by decide)]
      have bad : ¬ (s < s + l ∧ s + l ≤ s + 4 ∧ (s : Int) ≠ (ξ 267 5).toInt) → zH (fX12_number_n56 a1 a2 y3 y4 ξ) (NQ2 b n s (ξ 267 5).toInt a1 a2 ξ) := fun nb => by
        unfold fX12_number_n56
        refine zH_bd (mUnlike h ha (by omega) hb) (fun ζ pζ => ?_)
        obtain ⟨t, k1, k2, k3, k4, k5⟩ := pζ
        have et : t = s := Skp.uniq k1 ⟨Nat.le_refl _, by omega, fun i a d => absurd d (by omega), hs⟩
        unfold fX12_number_n60
        rw [mFine0 (by rw [k2]; decide), zBd_some, if_pos rfl]
        exact zH_some ⟨s + l, rn, Or.inr ⟨nb, k2, by rw [k3, et], k4, by rw [k5, et]⟩⟩
      refine zH_eqc h4 (iL (0) (0) rfl) (fun _ w => bad (fun v => by omega)) (fun _ w => ?_)
      refine zH_ltc (iL (4) (4) rfl) h4 (fun w2 => bad (fun v => by omega)) (fun w2 => ?_)
      refine zH_eqc h3 (rfl : (ξ 267 5).toInt = _) (fun _ w3 => bad (fun v => v.2.2 w3)) (fun _ w3 => ?_)
      unfold fX12_number_n60
      rw [mFine1 hb, zBd_some, if_neg (show ¬ (1 : Int32) = 0 by decide)]
      exact zH_mono (mNum_l75 (by omega) hd hl 100000 0 y3 y4 (0 : Int32) (0 : Int32) ξ h hb h3 h4 rfl (by omega) rfl (by omega)) (fun r p => ⟨s + l, rn, Or.inl ⟨⟨by omega, by omega, w3⟩, p⟩⟩)
    · have hl1 : s + l < n ∧ isD (b (s + l)) := by
        rcases p4 with p | p
        · exact p.2
        · rw [p.1] at c; exact absurd rfl c
      refine zH_lt (fun x22 e22 => ?_)
      have q22 : x22.toInt = ((l + 1 : Nat) : Int) := by rw [e22, iA h4 (iL (1) (1) rfl) (by omega) (by omega)]; omega
      exact ih (l + 1) y3 x22 ξ h hb ha hs h3 q22 (by omega) (fun i a d => by
        rcases Nat.lt_or_ge i (s + l) with w | w
        · exact hd i a w
        · rw [show i = s + l by omega]; exact hl1.2) (by omega)
theorem mNumber {b : Nat → Nat} {n p : Nat} {a1 a2 : Int32} {ξ : gM} (h : MT b n ξ) (ha : (ξ 267 4).toInt = p) (hn : p ≤ n) (hb : ξ 267 6 = 0) : zH (fX12_number a1 a2 ξ) (fun r => ∃ s, Skp b n p s ∧ NQ2 b n s (ξ 267 5).toInt a1 a2 ξ r) := by
  have hn5 := h.2.1
  unfold fX12_number
  refine zH_bp (mNext h ha hn) (fun x1 μ2 p2 => ?_)
  obtain ⟨s, k1, k2, k3, k4⟩ := p2
  have k2 : x1.toInt = s := k2
  have k3 : (μ2 267 4).toInt = s := k3
  have k4 : MF p4 ξ μ2 := k4
  refine zH_lt (fun μ3 e3 => ?_)
  have g3 : MF pF ξ μ3 := k4.tr (Q := pF) (by rw [e3]; exact MF.up _ (by unfold pF; omega)) (fun i w => Or.inl w) (fun _ w => w)
  have h3 : MT b n μ3 := h.mf g3 (by unfold pF; omega)
  have b3 : μ3 267 6 = 0 := by rw [e3, zUp_slot _ (by decide), k4.2 6 (by unfold p4; omega)]; exact hb
  have a3 : (μ3 267 4).toInt = s := by rw [e3, zUp_slot _ (by decide)]; exact k3
  have d3 : μ3 267 5 = ξ 267 5 := by rw [e3, zUp_slot _ (by decide), k4.2 5 (by unfold p4; omega)]
  have sn : s ≤ n := k1.2.1
  refine zH_mono (mNum_l13 100000 0 x1 (0 : Int32) μ3 h3 b3 a3 k1.2.2.2 k2 rfl (by omega) (fun i a d => absurd d (by omega)) (by omega)) (fun r p => ⟨s, k1, ?_⟩)
  rw [d3] at p
  obtain ⟨e, r1, r2⟩ := p
  refine ⟨e, r1, ?_⟩
  rcases r2 with ⟨w1, u1, u2, u3, u4, u5⟩ | ⟨w1, u1, u2, u3, u4⟩
  · exact Or.inl ⟨w1, u1, u2, u3, u4, g3.tr u5 (fun _ w => w) (fun _ w => w)⟩
  · exact Or.inr ⟨w1, u1, u2, g3.tr u3 (fun _ w => w) (fun _ w => w), u4⟩
