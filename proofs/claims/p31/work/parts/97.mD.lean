/-! letters of names -/
theorem pow32 (i : Nat) : 2 ^ (5 * i) = 32 ^ i := by rw [Nat.pow_mul]
theorem eC_dig {b : Nat → Nat} : ∀ (l s i : Nat), wL b s l → eC b s l / 32 ^ i % 32 = if i < l then b (s + i) - 96 else 0
  | 0, s, i, _ => by rw [if_neg (by omega), eC, Nat.zero_div]
  | l + 1, s, i, h => by
    have d : isL (b s) := h s (by omega) (by omega)
    unfold isL at d
    rw [eC]
    match i with
    | 0 =>
      rw [if_pos (by omega), Nat.pow_zero, Nat.div_one]
      show _ = b s - 96
      omega
    | i + 1 =>
      have := eC_dig l (s + 1) i (fun j a c => h j (by omega) (by omega))
      rw [Nat.pow_succ, Nat.mul_comm (32 ^ i) 32, ← Nat.div_div_eq_div_mul, show ((b s - 96) + 32 * eC b (s + 1) l) / 32 = eC b (s + 1) l by omega, this]
      by_cases c : i < l
      · rw [if_pos c, if_pos (by omega)]; congr 2; omega
      · rw [if_neg c, if_neg (by omega)]
theorem eM_dig {b : Nat → Nat} {s : Nat} : ∀ (l i : Nat), wL b s l → i < l → eM b s l / 32 ^ (l - 1 - i) % 32 = b (s + i) - 96
  | 0, i, _, hi => absurd hi (by omega)
  | l + 1, i, h, hi => by
    have d : isL (b (s + l)) := h (s + l) (by omega) (by omega)
    unfold isL at d
    rw [eM]
    by_cases c : i = l
    · subst c
      rw [show i + 1 - 1 - i = 0 by omega, Nat.pow_zero, Nat.div_one]; omega
    · have := eM_dig l i (fun j a c => h j a (by omega)) (by omega)
      rw [show l + 1 - 1 - i = (l - 1 - i) + 1 by omega, Nat.pow_succ, Nat.mul_comm (32 ^ (l - 1 - i)) 32, ← Nat.div_div_eq_div_mul, show (32 * eM b s l + (b (s + l) - 96)) / 32 = eM b s l by omega, this]
theorem eM_pos {b : Nat → Nat} {s : Nat} : ∀ (l n : Nat), wL b s l → n < l → 32 ^ n ≤ eM b s l
  | 0, n, _, hi => absurd hi (by omega)
  | l + 1, n, h, hi => by
    have d : isL (b (s + l)) := h (s + l) (by omega) (by omega)
    unfold isL at d
    rw [eM]
    match n with
    | 0 => rw [Nat.pow_zero]; omega
    | n + 1 =>
      have := eM_pos l n (fun j a c => h j a (by omega)) (by omega)
      rw [Nat.pow_succ]; omega
theorem s5 : ∀ n : Nat, n < 6 → ((((5 : Int32) * nI n) &&& 31).toBitVec.smod 32).toNat = 5 * n := by decide +kernel
theorem shr5 {v n : Nat} (hv : v < 2 ^ 31) (hn : n < 6) : nI v >>> (((5 : Int32) * nI n) &&& 31) = nI (v / 32 ^ n) := by
  rw [pk_shrN hv _ (5 * n) (s5 n hn), pow32]
theorem and31 {v : Nat} (hv : v < 2 ^ 31) : nI v &&& 31 = nI (v % 32) := by
  rw [pk_andN (by omega) 5 rfl]
theorem mLet_l {b : Nat → Nat} {l : Nat} {a3 : Int32} {ξ : gM} (h : wL b 0 l) (hl : l ≤ 6) : ∀ (m n : Nat) (y : Int32), y = nI n → n ≤ l → 6 < n + m → fX12_letter_l69 m a3 (nI (eM b 0 l)) y ξ = fX12_letter_n92 a3 (nI (eM b 0 l)) (nI l) ξ := by
  have hv : eM b 0 l < 2 ^ 31 := by
    have := eM_lt l 0 h
    have := p32 hl
    omega
  intro m
  induction m with
  | zero => intro n y hy hn gm; exact absurd gm (by omega)
  | succ m ih =>
    intro n y hy hn gm
    subst hy
    rw [fX12_letter_l69]
    have t6 : (6 : Int32) = nI 6 := rfl
    by_cases c : n = 6
    · have : l = 6 := by omega
      subst c
      subst this
      rw [if_pos (by decide)]
    · rw [if_neg (fun w => by rw [t6, nI_leI (by omega) (by omega)] at w; omega), shr5 hv (by omega)]
      have z0 : (0 : Int32) = nI 0 := rfl
      have dl : eM b 0 l / 32 ^ n ≤ eM b 0 l := Nat.div_le_self _ _
      by_cases c2 : n = l
      · subst c2
        rw [Nat.div_eq_of_lt (eM_lt n 0 h), if_pos (by decide)]
      · have q := eM_pos l n h (by omega)
        have q2 : 0 < eM b 0 l / 32 ^ n := Nat.div_pos q (Nat.pow_pos (by decide))
        rw [if_neg (fun w => by rw [z0, nI_leI (by omega) (by omega)] at w; omega)]
        exact ih (n + 1) _ (nI_1 n) (by omega) (by omega)
/-- a letter of a name, both ways -/
theorem NM.let {x y : Int32} {i : Nat} (h : NM x y) (hi : i < 6) (ξ : gM) : fX12_letter_l69 100000 (nI i) y 0 ξ = some ((x >>> (((5 : Int32) * nI i) &&& 31)) &&& (31 : Int32), ξ) := by
  obtain ⟨c, l, w, hl, rfl, rfl⟩ := h
  have p := p32 hl
  have hv : eM c 0 l < 2 ^ 31 := by
    have := eM_lt l 0 w
    omega
  have hc : eC c 0 l < 2 ^ 31 := by
    have := eC_lt l 0 w
    omega
  rw [mLet_l w hl 100000 0 0 rfl (by omega) (by omega), shr5 hc hi]
  have dl : eC c 0 l / 32 ^ i ≤ eC c 0 l := Nat.div_le_self _ _
  rw [and31 (by omega), eC_dig l 0 i w]
  unfold fX12_letter_n92
  by_cases ci : i < l
  · rw [if_neg (fun q => by rw [nI_leI (by omega) (by omega)] at q; omega), if_pos ci, show nI l - (1 : Int32) - nI i = nI (l - 1 - i) by rw [show (1 : Int32) = nI 1 from rfl, pk_sub (by omega), pk_sub (by omega)], shr5 hv (by omega)]
    have dl : eM c 0 l / 32 ^ (l - 1 - i) ≤ eM c 0 l := Nat.div_le_self _ _
    rw [and31 (by omega), eM_dig l i w ci]
  · rw [if_pos (nI_le (by omega) (by omega)), if_neg ci]
    rfl
theorem mIsIn {a b c : Int64} {x y z : Int} (μ : gM) (ha : a.toInt = x) (hb : b.toInt = y) (hc : c.toInt = z) : fX12_isIn a b c μ = some (if y ≤ x ∧ x ≤ z then 1 else 0) := by
  obtain ⟨v, e, p1, p2, p3⟩ := tX12_isIn (μ := μ) ha hb hc
  rw [e]
  rcases p1 with q | q
  · rw [show v = 0 from Int32.toInt_inj.mp q, if_neg]
    have := p3 q
    omega
  · rw [show v = 1 from Int32.toInt_inj.mp q, if_pos (p2 q)]
theorem mIn32 {a : Int32} {b c : Int64} {y z : Int} (μ : gM) (hb : b.toInt = y) (hc : c.toInt = z) : fX12_isIn a.toInt64 b c μ = some (if y ≤ a.toInt ∧ a.toInt ≤ z then 1 else 0) := mIsIn μ (Int32.toInt_toInt64 a) hb hc
/-- an index: below a bound or not -/
theorem inB {a : Int32} {n : Nat} (hn : n < 100000) : (0 ≤ a.toInt ∧ a.toInt ≤ (n : Int) - 1) ↔ ∃ j : Nat, j < n ∧ a = nI j := by
  constructor
  · rintro ⟨h1, h2⟩
    exact ⟨a.toInt.toNat, by omega, nI_of' (by omega)⟩
  · rintro ⟨j, hj, rfl⟩
    rw [tN (by omega)]; omega
/-- the same, as the class asks it -/
theorem cIn {a : Int32} {n : Nat} {α : Type} {A B : α} (hn : n < 100000) : (if a < 0 then A else if nI n ≤ a then A else B) = if 0 ≤ a.toInt ∧ a.toInt ≤ (n : Int) - 1 then B else A := by
  have t := tN hn
  have z : (0 : Int32).toInt = 0 := rfl
  by_cases c1 : a < 0
  · have := Int32.lt_iff_toInt_lt.mp c1
    rw [if_pos c1, if_neg (by omega)]
  · have : ¬ a.toInt < (0 : Int32).toInt := fun w => c1 (Int32.lt_iff_toInt_lt.mpr w)
    rw [if_neg c1]
    by_cases c2 : nI n ≤ a
    · have := Int32.le_iff_toInt_le.mp c2
      rw [if_pos c2, if_neg (by omega)]
    · have : ¬ (nI n).toInt ≤ a.toInt := fun w => c2 (Int32.le_iff_toInt_le.mpr w)
      rw [if_neg c2, if_pos (by omega)]
theorem m1_64 {n : Nat} (hn : n < 100000) : ((nI n - (1 : Int32)).toInt64).toInt = (n : Int) - 1 := by
  rw [Int32.toInt_toInt64, show (1 : Int32) = nI 1 from rfl, pk_sub_toInt (by omega) (by omega)]
  rfl
theorem NET.nt {μ ξ : gM} (h : NET μ ξ) {t : Nat} (ht : t < 3) : NT 4 269 t μ ξ := by
  have : t = 0 ∨ t = 1 ∨ t = 2 := by omega
  rcases this with rfl | rfl | rfl
  · exact h.1.1
  · exact h.1.2.1
  · exact h.1.2.2
/-- the count of a sort -/
theorem NET.ct {μ ξ : gM} (h : NET μ ξ) {t : Nat} (ht : t < 3) : ∃ c : Nat, c ≤ 8 ∧ μ 5 t = nI c ∧ ξ 269 t = nI c := by
  obtain ⟨u1, u2, -⟩ := h.nt ht
  have e : ξ 269 t = nI (ξ 269 t).toInt.toNat := nI_of' (by omega)
  exact ⟨_, by omega, u1.trans e, e⟩
theorem pLetter {μ ξ : gM} {a1 a2 a3 : Int32} (h : NET μ ξ) : ∃ v, fX11_letter a1 a2 a3 μ = some v ∧ fX12_letter a1 a2 a3 ξ = some (v, gUp ξ 267 0 0) := by
  unfold fX11_letter fX12_letter fX1_isThere
  rw [zLt_eq, mIn32 _ (y := 0) (z := 2) rfl rfl, zBd_some]
  have e9 : gUp ξ 267 0 0 269 = ξ 269 := zUp_ne _ (by decide)
  by_cases c1 : 0 ≤ a1.toInt ∧ a1.toInt ≤ (2 : Int)
  · obtain ⟨t, ht, rfl⟩ := (inB (n := 3) (by decide)).mp ⟨c1.1, by omega⟩
    obtain ⟨c, hc, q1, q2⟩ := h.ct ht
    have tt : (nI t).toInt = t := tN (by omega)
    rw [if_pos c1, if_neg one_n0, if_neg (fun w => by have := Int32.lt_iff_toInt_lt.mp w; have z : (0 : Int32).toInt = 0 := rfl; omega), if_neg (fun w => by have := Int32.lt_iff_toInt_lt.mp w; have z : (2 : Int32).toInt = 2 := rfl; omega)]
    rw [show (0 : Int32) + nI t = nI t from Int32.zero_add _]
    simp only [zCk]
    rw [if_pos (zIn tt (by omega) (by omega)), if_pos (zIn tt (by omega) (by omega)), cl_of tt, e9, q2, show μ (4 + 1) t = nI c from q1, cIn (by omega), mIn32 _ (y := 0) rfl (m1_64 (by omega)), zBd_some]
    by_cases c2 : 0 ≤ a2.toInt ∧ a2.toInt ≤ (c : Int) - 1
    · obtain ⟨k, hk, rfl⟩ := (inB (n := c) (by omega)).mp c2
      have tk : (nI k).toInt = k := tN (by omega)
      rw [if_pos c2, if_pos c2, zBd_some, if_neg one_n0, if_neg one_n0, mIn32 _ (y := 0) (z := 5) rfl rfl, zBd_some]
      by_cases c3 : 0 ≤ a3.toInt ∧ a3.toInt ≤ (5 : Int)
      · obtain ⟨i, hi, rfl⟩ := (inB (n := 6) (by decide)).mp ⟨c3.1, by omega⟩
        have ti : (nI i).toInt = i := tN (by omega)
        have i8 : (nI t * (8 : Int32) + nI k).toInt = ((t * 8 + k : Nat) : Int) := (iA (iM tt (iL (8) (8) rfl) (by omega) (by omega)) tk (by omega) (by omega)).trans (by omega)
        have j8 : ((4 : Int32) + (8 : Int32) * nI t + nI k).toInt = ((4 + 8 * t + k : Nat) : Int) := (iA (iA (iL (4) (4) rfl) (iM (iL (8) (8) rfl) tt (by omega) (by omega)) (by omega) (by omega)) tk (by omega) (by omega)).trans (by omega)
        rw [if_pos c3, if_neg one_n0, if_neg (fun w => by have := Int32.lt_iff_toInt_lt.mp w; have z : (0 : Int32).toInt = 0 := rfl; omega), if_pos (Int32.lt_iff_toInt_lt.mpr (by have z : (6 : Int32).toInt = 6 := rfl; omega)), if_pos (zIn i8 (by omega) (by omega)), if_pos (zIn j8 (by omega) (by omega)), cl_of i8, cl_of j8, zLt_eq]
        have nm := (h.nt ht).2.2 k (by rw [q2, tN (by omega)]; omega)
        exact ⟨_, rfl, nm.let hi _⟩
      · rw [if_neg c3, if_pos rfl]
        refine ⟨-1, ?_, rfl⟩
        by_cases c4 : a3 < 0
        · rw [if_pos c4]
        · rw [if_neg c4, if_neg (fun w => c3 (by
            have w := Int32.lt_iff_toInt_lt.mp w
            have : ¬ a3.toInt < (0 : Int32).toInt := fun w => c4 (Int32.lt_iff_toInt_lt.mpr w)
            have z : (0 : Int32).toInt = 0 := rfl
            have z : (6 : Int32).toInt = 6 := rfl
            omega))]
    · rw [if_neg c2, if_neg c2, zBd_some, if_pos rfl, if_pos rfl]
      exact ⟨-1, rfl, rfl⟩
  · rw [if_neg c1, if_pos rfl]
    refine ⟨-1, ?_, rfl⟩
    by_cases c4 : a1 < 0
    · rw [if_pos c4]; rfl
    · rw [if_neg c4, if_pos (Int32.lt_iff_toInt_lt.mpr (by
        have : ¬ a1.toInt < (0 : Int32).toInt := fun w => c4 (Int32.lt_iff_toInt_lt.mpr w)
        have z : (0 : Int32).toInt = 0 := rfl
        have z : (2 : Int32).toInt = 2 := rfl
        omega))]
      rfl
theorem pTrackQ {μ ξ : gM} {a1 a2 : Int32} (h : NET μ ξ) : ∃ v, fX11_track a1 a2 μ = some v ∧ fX12_track a1 a2 ξ = some (v, gUp ξ 267 0 0) := by
  obtain ⟨cn, cl, cg, ct, nc⟩ := h.nc
  have e9 : gUp ξ 267 0 0 269 = ξ 269 := zUp_ne _ (by decide)
  have b4 := nc.1.2.2.2
  have tct : (nI ct).toInt = ct := tN (by omega)
  unfold fX11_track fX12_track
  rw [zLt_eq, e9, nc.2.2.2.2.2, nc.2.1.2.2.2, mIn32 _ (y := 0) rfl (m1_64 (by omega)), zBd_some]
  by_cases c1 : 0 ≤ a1.toInt ∧ a1.toInt ≤ (ct : Int) - 1
  · obtain ⟨t, ht, rfl⟩ := (inB (n := ct) (by omega)).mp c1
    have tt : (nI t).toInt = t := tN (by omega)
    obtain ⟨g, k, u1, u2, u3, u4, u5, u6, u7, -⟩ := h.tk nc ht
    have it : gIn (nI t) 24 = true := zIn tt (by omega) (by omega)
    rw [if_pos c1, if_neg one_n0, if_neg (nI_pos (by omega)), if_pos (nI_lt ht (by omega)), mIn32 _ (y := 0) (z := 3) rfl rfl, zBd_some]
    by_cases c2 : 0 ≤ a2.toInt ∧ a2.toInt ≤ (3 : Int)
    · obtain ⟨i, hi, rfl⟩ := (inB (n := 4) (by decide)).mp ⟨c2.1, by omega⟩
      have ti : (nI i).toInt = i := tN (by omega)
      have j0 : ((113 : Int32) + (4 : Int32) * nI t + nI i).toInt = ((113 + 4 * t + i : Nat) : Int) := (iA (iA (iL (113) (113) rfl) (iM (iL (4) (4) rfl) tt (by omega) (by omega)) (by omega) (by omega)) ti (by omega) (by omega)).trans (by omega)
      rw [if_pos c2, if_neg one_n0]
      simp only [zCk]
      rw [if_pos (zIn j0 (by omega) (by omega)), cl_of j0, if_pos it, if_pos it, if_pos it, if_pos it, cl_of tt, u5, u6, u7]
      have t6 : (6 : Int32) = nI 6 := rfl
      have : i = 0 ∨ i = 1 ∨ i = 2 ∨ i = 3 := by omega
      rcases this with rfl | rfl | rfl | rfl
      · rw [if_pos (show nI 0 = 0 from rfl), t6, pk_div (by omega) (by decide) (by decide)]
        exact ⟨_, rfl, by rw [show 113 + 4 * t + 0 = 113 + 4 * t from rfl, u3, show (6 * g + k) / 6 = g by omega]⟩
      · rw [if_neg (show ¬ nI 1 = 0 by decide), if_pos (show nI 1 = 1 from rfl), t6, pk_rem (by omega) (by decide) (by decide)]
        exact ⟨_, rfl, by rw [u4, show (6 * g + k) % 6 = k by omega]⟩
      · rw [if_neg (show ¬ nI 2 = 0 by decide), if_neg (show ¬ nI 2 = 1 by decide), if_pos (show nI 2 = 2 from rfl)]
        exact ⟨_, rfl, rfl⟩
      · rw [if_neg (show ¬ nI 3 = 0 by decide), if_neg (show ¬ nI 3 = 1 by decide), if_neg (show ¬ nI 3 = 2 by decide), if_pos (show nI 3 = 3 from rfl)]
        exact ⟨_, rfl, rfl⟩
    · rw [if_neg c2, if_pos rfl, if_neg (fun w => c2 (by rw [w]; decide)), if_neg (fun w => c2 (by rw [w]; decide)), if_neg (fun w => c2 (by rw [w]; decide)), if_neg (fun w => c2 (by rw [w]; decide))]
      exact ⟨_, rfl, rfl⟩
  · rw [if_neg c1, if_pos rfl]
    refine ⟨-1, ?_, rfl⟩
    by_cases c4 : a1 < 0
    · rw [if_pos c4]
    · rw [if_neg c4, if_neg (fun w => c1 (by
        have w := Int32.lt_iff_toInt_lt.mp w
        have : ¬ a1.toInt < (0 : Int32).toInt := fun w => c4 (Int32.lt_iff_toInt_lt.mpr w)
        have z : (0 : Int32).toInt = 0 := rfl
        omega))]
