/-! names -/
theorem own_of : ∀ x : Int32, (∃ k, k < 21 ∧ x = Wm k) ↔ (x = 231045 ∨ x = 402891 ∨ x = 7945904 ∨ x = 5969497 ∨ x = 4370489 ∨ x = 11703827 ∨ x = 20332179 ∨ x = 441878706 ∨ x = 486 ∨ x = 769604 ∨ x = 20186693 ∨ x = 21562475 ∨ x = 89 ∨ x = 398963 ∨ x = 52 ∨ x = 688 ∨ x = 147182 ∨ x = 3764 ∨ x = 431556 ∨ x = 20459828 ∨ x = 267308) := by
  intro x
  constructor
  · rintro ⟨k, hk, rfl⟩
    have : k = 0 ∨ k = 1 ∨ k = 2 ∨ k = 3 ∨ k = 4 ∨ k = 5 ∨ k = 6 ∨ k = 7 ∨ k = 8 ∨ k = 9 ∨ k = 10 ∨ k = 11 ∨ k = 12 ∨ k = 13 ∨ k = 14 ∨ k = 15 ∨ k = 16 ∨ k = 17 ∨ k = 18 ∨ k = 19 ∨ k = 20 := by omega
    rcases this with rfl | rfl | rfl | rfl | rfl | rfl | rfl | rfl | rfl | rfl | rfl | rfl | rfl | rfl | rfl | rfl | rfl | rfl | rfl | rfl | rfl <;> decide
  · intro h
    rcases h with rfl | rfl | rfl | rfl | rfl | rfl | rfl | rfl | rfl | rfl | rfl | rfl | rfl | rfl | rfl | rfl | rfl | rfl | rfl | rfl | rfl
    · exact ⟨0, by decide, rfl⟩
    · exact ⟨1, by decide, rfl⟩
    · exact ⟨2, by decide, rfl⟩
    · exact ⟨3, by decide, rfl⟩
    · exact ⟨4, by decide, rfl⟩
    · exact ⟨5, by decide, rfl⟩
    · exact ⟨6, by decide, rfl⟩
    · exact ⟨7, by decide, rfl⟩
    · exact ⟨8, by decide, rfl⟩
    · exact ⟨9, by decide, rfl⟩
    · exact ⟨10, by decide, rfl⟩
    · exact ⟨11, by decide, rfl⟩
    · exact ⟨12, by decide, rfl⟩
    · exact ⟨13, by decide, rfl⟩
    · exact ⟨14, by decide, rfl⟩
    · exact ⟨15, by decide, rfl⟩
    · exact ⟨16, by decide, rfl⟩
    · exact ⟨17, by decide, rfl⟩
    · exact ⟨18, by decide, rfl⟩
    · exact ⟨19, by decide, rfl⟩
    · exact ⟨20, by decide, rfl⟩
theorem mIsOwn (x : Int32) (ξ : gM) : fX12_isOwn x ξ = some (if (x = 231045 ∨ x = 402891 ∨ x = 7945904 ∨ x = 5969497 ∨ x = 4370489 ∨ x = 11703827 ∨ x = 20332179 ∨ x = 441878706 ∨ x = 486 ∨ x = 769604 ∨ x = 20186693 ∨ x = 21562475 ∨ x = 89 ∨ x = 398963 ∨ x = 52 ∨ x = 688 ∨ x = 147182 ∨ x = 3764 ∨ x = 431556 ∨ x = 20459828 ∨ x = 267308) then 1 else 0) := by
  unfold fX12_isOwn fX12_isOwn_n67 fX12_isOwn_n72
  by_cases h1 : x = 231045
  · simp [h1]
  by_cases h2 : x = 402891
  · simp [h2]
  by_cases h3 : x = 7945904
  · simp [h3]
  by_cases h4 : x = 5969497
  · simp [h4]
  by_cases h5 : x = 4370489
  · simp [h5]
  by_cases h6 : x = 11703827
  · simp [h6]
  by_cases h7 : x = 20332179
  · simp [h7]
  by_cases h8 : x = 441878706
  · simp [h8]
  by_cases h9 : x = 486
  · simp [h9]
  by_cases h10 : x = 769604
  · simp [h10]
  by_cases h11 : x = 20186693
  · simp [h11]
  by_cases h12 : x = 21562475
  · simp [h12]
  by_cases h13 : x = 89
  · simp [h13]
  by_cases h14 : x = 398963
  · simp [h14]
  by_cases h15 : x = 52
  · simp [h15]
  by_cases h16 : x = 688
  · simp [h16]
  by_cases h17 : x = 147182
  · simp [h17]
  by_cases h18 : x = 3764
  · simp [h18]
  by_cases h19 : x = 431556
  · simp [h19]
  by_cases h20 : x = 20459828
  · simp [h20]
  by_cases h21 : x = 267308
  · simp [h21]
  simp [h1, h2, h3, h4, h5, h6, h7, h8, h9, h10, h11, h12, h13, h14, h15, h16, h17, h18, h19, h20, h21]
/-- a name that may be told: a word that is none of the own ones -/
def NAt (b : Nat → Nat) (n s : Nat) (g : Int) (e : Nat) : Prop := WAt b n s g e ∧ ∀ k, k < 21 → ¬ WD b n s g k
theorem SIM.gn {b : Nat → Nat} {n s : Nat} {g : Int} {μ ξ : gM} (h : SIM b n s g μ ξ) (e : Nat) : NAt b n s g e ↔ NAt b n s (ξ 267 5).toInt e := by
  unfold NAt
  rw [h.gw]
  constructor
  · rintro ⟨a, c⟩
    exact ⟨a, fun k hk d => c k hk ((h.gd k).mpr d)⟩
  · rintro ⟨a, c⟩
    exact ⟨a, fun k hk d => c k hk ((h.gd k).mp d)⟩
theorem cIsName {b : Nat → Nat} {n s : Nat} {g : Int} {μ : gM} (h : CS b n s g μ) (ho : OWN μ) : (∃ e, NAt b n s g e ∧ fX7_isName μ = some 1 ∧ μ 1 4 = 1 ∧ μ 1 6 = nI (eC b s (e - s)) ∧ (μ 1 3).toInt = e) ∨ ((∀ e, ¬ NAt b n s g e) ∧ fX7_isName μ = some 0) := by
  unfold fX7_isName
  rcases h.word with ⟨e, w1, w2, w3, w4⟩ | ⟨w1, w2⟩
  · rw [if_pos w2]
    obtain ⟨v, ev, pv⟩ := cOwn h ho
    rw [ev, zBd_some]
    rcases pv with ⟨k, hk, u1, u2⟩ | ⟨u1, u2⟩
    · refine Or.inr ⟨fun e' q => q.2 k hk u2, ?_⟩
      rw [if_neg (fun q => ?_)]
      rw [u1] at q
      have t1 := congrArg Int32.toInt q
      rw [nI_toInt (by omega)] at t1
      have : (-1 : Int32).toInt = -1 := rfl
      omega
    · rw [if_pos u1]
      exact Or.inl ⟨e, ⟨w1, u2⟩, rfl, w2, w3, w4⟩
  · rw [if_neg w2]
    exact Or.inr ⟨fun e q => w1 e q.1, rfl⟩
theorem mIsName {b : Nat → Nat} {n p : Nat} {ξ : gM} (h : MT b n ξ) (ha : (ξ 267 4).toInt = p) (hn : p ≤ n) (hb : ξ 267 6 = 0) : zH (fX12_isName ξ) (fun r => ∃ s, Skp b n p s ∧ (r.2 267 4).toInt = s ∧ MF pW ξ r.2 ∧ ((∃ e, NAt b n s (ξ 267 5).toInt e ∧ r.1 = 1 ∧ (r.2 267 11).toInt = ((e - s : Nat) : Int) ∧ r.2 267 10 = nI (eM b s (e - s))) ∨ ((∀ e, ¬ NAt b n s (ξ 267 5).toInt e) ∧ r.1 = 0))) := by
  unfold fX12_isName
  rw [mFine1 hb, zBd_some, if_neg (show ¬ (1 : Int32) = 0 by decide)]
  refine zH_bp (mSees h ha hn) (fun x2 μ3 p3 => ?_)
  obtain ⟨s, k1, k2, k3, k4⟩ := p3
  rcases k4 with ⟨e, w1, w2, w3, w4⟩ | ⟨w1, w2⟩
  · have w2 : x2 = 1 := w2
    have w4 : μ3 267 10 = nI (eM b s (e - s)) := w4
    rw [w2, if_neg (show ¬ (1 : Int32) = 0 by decide), mIsOwn, zBd_some]
    have io : (∃ k, k < 21 ∧ μ3 267 10 = Wm k) ↔ ∃ k, k < 21 ∧ WD b n s (ξ 267 5).toInt k := by
      constructor
      · rintro ⟨k, hk, q⟩
        exact ⟨k, hk, (WD_m w1 hk).mp (w4.symm.trans q)⟩
      · rintro ⟨k, hk, q⟩
        exact ⟨k, hk, w4.trans ((WD_m w1 hk).mpr q)⟩
    by_cases c : ∃ k, k < 21 ∧ μ3 267 10 = Wm k
    · rw [if_pos ((own_of _).mp c), if_neg (show ¬ (1 : Int32) = 0 by decide)]
      obtain ⟨k, hk, q⟩ := io.mp c
      exact zH_some ⟨s, k1, k2, k3, Or.inr ⟨fun e' v => v.2 k hk q, rfl⟩⟩
    · rw [if_neg (fun q => c ((own_of _).mpr q)), if_pos rfl]
      exact zH_some ⟨s, k1, k2, k3, Or.inl ⟨e, ⟨w1, fun k hk q => c (io.mpr ⟨k, hk, q⟩)⟩, rfl, w3, w4⟩⟩
  · have w2 : x2 = 0 := w2
    rw [w2, if_pos rfl]
    exact zH_some ⟨s, k1, k2, k3, Or.inr ⟨fun e q => w1 e q.1, rfl⟩⟩
/-- a name in both tables -/
def NM (x y : Int32) : Prop := ∃ (c : Nat → Nat) (l : Nat), wL c 0 l ∧ l ≤ 6 ∧ x = nI (eC c 0 l) ∧ y = nI (eM c 0 l)
theorem NM.iff {b : Nat → Nat} {n s e : Nat} {g : Int} {x y : Int32} (h : NM x y) (w : WAt b n s g e) : x = nI (eC b s (e - s)) ↔ y = nI (eM b s (e - s)) := by
  obtain ⟨c, l, h1, h2, rfl, rfl⟩ := h
  have w1 := w.wl
  have l6 : e - s ≤ 6 := by have := w.2.2.2.1; omega
  have c1 := eC_lt (e - s) s w1
  have c2 := eC_lt l 0 h1
  have c3 := eM_lt (e - s) s w1
  have c4 := eM_lt l 0 h1
  have d1 := p32 l6
  have d2 := p32 h2
  constructor
  · intro q
    rw [(enc_iff h1 w1).mp (nI_inj (by omega) (by omega) q)]
  · intro q
    rw [(enc_iff h1 w1).mpr (nI_inj (by omega) (by omega) q)]
theorem NM.of {b : Nat → Nat} {n s e : Nat} {g : Int} (w : WAt b n s g e) : NM (nI (eC b s (e - s))) (nI (eM b s (e - s))) := by
  refine ⟨fun i => b (s + i), e - s, fun i _ hi => ?_, by have := w.2.2.2.1; omega, ?_, ?_⟩
  · exact w.wl (s + i) (by omega) (by omega)
  · rw [eC_congr (c := fun i => b (s + i)) (e - s) s 0 (fun i hi => by simp)]
  · rw [eM_congr (c := fun i => b (s + i)) (e - s) s 0 (fun i hi => by simp)]
/-- one sort's names in the class's net p, in the reference's row q -/
def NT (p q t : Nat) (μ ξ : gM) : Prop := μ (p + 1) t = ξ q t ∧ (0 ≤ (ξ q t).toInt ∧ (ξ q t).toInt ≤ 8) ∧ ∀ k : Nat, (k : Int) < (ξ q t).toInt → NM (μ (p + 2) (t * 8 + k)) (ξ q (4 + 8 * t + k))
def FQ (q t : Nat) (ξ : gM) (v : Int32) : Prop := v = -1 ∨ ∃ k : Nat, v = nI k ∧ (k : Int) < (ξ q t).toInt
theorem pFind_l {b : Nat → Nat} {n s e p q t : Nat} {g : Int} {μ ξ : gM} {a : Int32} (ht : t < 3) (hat : a.toInt = t) (h : NT p q t μ ξ) (w : WAt b n s g e) : ∀ (m k : Nat) (y : Int32), y.toInt = k → (k : Int) ≤ (ξ q t).toInt → 8 < k + m → ∃ v, fX1_find_l2 p m a (nI (eC b s (e - s))) y μ = some v ∧ fX12_nameOf_l2 q m a (nI (eM b s (e - s))) y ξ = some v ∧ FQ q t ξ v := by
  intro m
  induction m with
  | zero =>
    intro k y hy hk gm
    have := h.2.1
    exact absurd gm (by omega)
  | succ m ih =>
    intro k y hy hk gm
    obtain ⟨h1, h2, h3⟩ := h
    rw [fX1_find_l2, fX12_nameOf_l2]
    have ca : a.toNatClampNeg = t := cl_of hat
    have z : (0 : Int32) + a = a := Int32.zero_add _
    have z0 : (0 : Int32).toInt = 0 := rfl
    have z2 : (2 : Int32).toInt = 2 := rfl
    have z8 : (8 : Int32).toInt = 8 := rfl
    rw [if_neg (fun w => by have := Int32.lt_iff_toInt_lt.mp w; omega), if_neg (fun w => by have := Int32.lt_iff_toInt_lt.mp w; omega), z]
    have g3 : gIn a 3 = true := zIn hat (by omega) (by omega)
    have g209 : gIn a 209 = true := zIn hat (by omega) (by omega)
    unfold zCk
    rw [if_pos g3, if_pos g209, ca, h1]
    by_cases c : ξ q t ≤ y
    · rw [if_pos c, if_pos c]
      exact ⟨-1, rfl, rfl, Or.inl rfl⟩
    · rw [if_neg c, if_neg c]
      have c' : ¬ (ξ q t).toInt ≤ y.toInt := fun w => c (Int32.le_iff_toInt_le.mpr w)
      have kk : (k : Int) < (ξ q t).toInt := by omega
      rw [if_neg (fun w => by have := Int32.le_iff_toInt_le.mp w; omega)]
      have i1 : (a * 8 + y).toInt = ((t * 8 + k : Nat) : Int) := (iA (iM hat (iL (8) (8) rfl) (by omega) (by omega)) hy (by omega) (by omega)).trans (by omega)
      have i2 : ((4 : Int32) + (8 : Int32) * a + y).toInt = ((4 + 8 * t + k : Nat) : Int) := (iA (iA (iL (4) (4) rfl) (iM (iL (8) (8) rfl) hat (by omega) (by omega)) (by omega) (by omega)) hy (by omega) (by omega)).trans (by omega)
      rw [if_pos (zIn i1 (by omega) (by omega)), if_pos (zIn i2 (by omega) (by omega)), cl_of i1, cl_of i2]
      have nm := (h3 k kk).iff w
      by_cases d : μ (p + 2) (t * 8 + k) = nI (eC b s (e - s))
      · rw [if_pos d, if_pos (nm.mp d)]
        exact ⟨y, rfl, rfl, Or.inr ⟨k, nI_of' hy, kk⟩⟩
      · rw [if_neg d, if_neg (fun w => d (nm.mpr w))]
        simp only [zLt]
        have q1 : (y + 1).toInt = ((k + 1 : Nat) : Int) := (iA hy (iL (1) (1) rfl) (by omega) (by omega)).trans (by omega)
        exact ih (k + 1) (y + 1) q1 (by omega) (by omega)
theorem pFind {b : Nat → Nat} {n s e p q t : Nat} {g : Int} {μ ξ : gM} {a : Int32} (ht : t < 3) (hat : a.toInt = t) (h : NT p q t μ ξ) (w : WAt b n s g e) : ∃ v, fX1_find p a (nI (eC b s (e - s))) μ = some v ∧ fX12_nameOf q a (nI (eM b s (e - s))) ξ = some v ∧ FQ q t ξ v := by
  unfold fX1_find fX12_nameOf
  exact pFind_l ht hat h w 100000 0 (0 : Int32) rfl (by have := h.2.1.1; omega) (by decide)
