/-! readers: events, the log, who holds -/
theorem cIn' {a : Int32} {n : Nat} {α : Type} {A B : α} (hn : n < 100000) : (if a < 0 then A else if a < nI n then B else A) = if 0 ≤ a.toInt ∧ a.toInt ≤ (n : Int) - 1 then B else A := by
  have z0 : (0 : Int32).toInt = 0 := rfl
  have zn : (nI n).toInt = n := tN hn
  by_cases c : a < 0
  · have := Int32.lt_iff_toInt_lt.mp c
    rw [if_pos c, if_neg (by omega)]
  · have d : ¬ a.toInt < (0 : Int32).toInt := fun w => c (Int32.lt_iff_toInt_lt.mpr w)
    rw [if_neg c]
    by_cases e : a < nI n
    · have := Int32.lt_iff_toInt_lt.mp e
      rw [if_pos e, if_pos (by omega)]
    · have f : ¬ a.toInt < (nI n).toInt := fun w => e (Int32.lt_iff_toInt_lt.mpr w)
      rw [if_neg e, if_neg (by omega)]
theorem pEventQ0 {n : Nat} {a1 a2 : Int32} {μ ζ : gM} (n20 : n ≤ 20) (p1 : μ 35 0 = nI n) (p2 : ζ 272 8 = nI n) (p3 : ∀ i, i < 5 * n → μ 36 i = ζ 272 (145 + i)) : ∃ v, fX11_event a1 a2 μ = some v ∧ zBd (fX12_isIn (a1).toInt64 (0 : Int64) (((ζ 272 8) - (1 : Int32))).toInt64 ζ) (fun x2 => (if x2 = 0 then (some ((-1 : Int32), ζ)) else zBd (fX12_isIn (a2).toInt64 (0 : Int64) (4 : Int64) ζ) (fun x3 => (if x3 = 0 then (some ((-1 : Int32), ζ)) else zCk (gIn (((145 : Int32) + ((5 : Int32) * a1)) + a2) 490) ((some ((ζ 272 ((((145 : Int32) + ((5 : Int32) * a1)) + a2)).toNatClampNeg), ζ))))))) = some (v, ζ) := by
  unfold fX11_event
  rw [p1, p2, cIn (by omega), mIn32 _ (y := 0) rfl (m1_64 (by omega)), zBd_some]
  by_cases c : 0 ≤ a1.toInt ∧ a1.toInt ≤ (n : Int) - 1
  · obtain ⟨k, hk, rfl⟩ := (inB (by omega)).mp c
    rw [if_pos c, if_pos c, if_neg one_n0, mIn32 _ (y := 0) (z := 4) rfl rfl, zBd_some, show (5 : Int32) = nI 5 from rfl, cIn' (by decide)]
    by_cases d : 0 ≤ a2.toInt ∧ a2.toInt ≤ ((5 : Nat) : Int) - 1
    · obtain ⟨j, hj, rfl⟩ := (inB (by decide)).mp d
      have d' : 0 ≤ (nI j).toInt ∧ (nI j).toInt ≤ 4 := by omega
      rw [if_pos d, if_pos d', if_neg one_n0, pk_mul, pk_mul, nI_add, show (145 : Int32) = nI 145 from rfl, nI_add, nI_add, ckT (gI (by omega) (by decide)), ckT (gI (by omega) (by decide)), nI_clamp (by omega), nI_clamp (by omega), p3 _ (by omega), show 145 + (k * 5 + j) = 145 + 5 * k + j by omega]
      exact ⟨_, rfl, rfl⟩
    · rw [if_neg d, if_neg (show ¬ (0 ≤ a2.toInt ∧ a2.toInt ≤ 4) by omega), if_pos rfl]
      exact ⟨_, rfl, rfl⟩
  · rw [if_neg c, if_neg c, if_pos rfl]
    exact ⟨_, rfl, rfl⟩
theorem pEventQ {a1 a2 : Int32} {μ ξ : gM} (h : LIVE μ ξ) : ∃ v, fX11_event a1 a2 μ = some v ∧ fX12_event a1 a2 ξ = some (v, gUp ξ 267 0 0) := by
  have l0 := h.u0
  unfold fX12_event
  rw [zLt_eq]
  generalize gUp ξ 267 0 0 = ζ at l0 ⊢
  obtain ⟨⟨⟨c, n, -, pln, -⟩, -⟩, -, -⟩ := l0
  obtain ⟨n20, p1, p2, p3, -⟩ := pln
  exact pEventQ0 n20 p1 p2 p3
theorem pLogQ0 {n c : Nat} {a1 a2 : Int32} {μ ζ : gM} (n60 : n < 60) (c60 : c ≤ 60) (p0 : μ 37 1 = nI n) (p1 : μ 37 0 = nI c) (p2 : ζ 272 7 = nI c) (p3 : ∀ i j, i < c → j < 4 → μ 38 (4 * ((n + 60 - i) % 60) + j) = ζ 272 (245 + 4 * i + j)) : ∃ v, fX11_log a1 a2 μ = some v ∧ zBd (fX12_isIn (a1).toInt64 (0 : Int64) (((ζ 272 7) - (1 : Int32))).toInt64 ζ) (fun x2 => (if x2 = 0 then (some ((-1 : Int32), ζ)) else zBd (fX12_isIn (a2).toInt64 (0 : Int64) (3 : Int64) ζ) (fun x3 => (if x3 = 0 then (some ((-1 : Int32), ζ)) else zCk (gIn (((245 : Int32) + ((4 : Int32) * a1)) + a2) 490) ((some ((ζ 272 ((((245 : Int32) + ((4 : Int32) * a1)) + a2)).toNatClampNeg), ζ))))))) = some (v, ζ) := by
  unfold fX11_log fX0_read
  rw [p0, p1, p2, cIn (by omega), mIn32 _ (y := 0) rfl (m1_64 (by omega)), zBd_some]
  by_cases d : 0 ≤ a1.toInt ∧ a1.toInt ≤ (c : Int) - 1
  · obtain ⟨k, hk, rfl⟩ := (inB (by omega)).mp d
    rw [if_pos d, if_pos d, if_neg one_n0, mIn32 _ (y := 0) (z := 3) rfl rfl, zBd_some, show (4 : Int32) = nI 4 from rfl, cIn' (by decide)]
    by_cases e : 0 ≤ a2.toInt ∧ a2.toInt ≤ ((4 : Nat) : Int) - 1
    · obtain ⟨j, hj, rfl⟩ := (inB (by decide)).mp e
      have e' : 0 ≤ (nI j).toInt ∧ (nI j).toInt ≤ 3 := by omega
      have tn := tN (m := n) (by omega)
      have tk := tN (m := k) (by omega)
      rw [if_pos e, if_pos e', if_neg one_n0, pk_mul, show (245 : Int32) = nI 245 from rfl, nI_add, nI_add, ckT (gI (N := 490) (by omega) (by decide)), nI_clamp (n := 245 + 4 * k + j) (by omega), ← p3 k j hk hj]
      have fin : ∀ r : Nat, r < 60 → r = (n + 60 - k) % 60 → zBd (fX0_read_n49 37 (nI j) (nI r) μ) (fun x1 => some x1) = some (μ 38 (4 * ((n + 60 - k) % 60) + j)) := fun r hr er => by
        unfold fX0_read_n49
        rw [show (4 : Int32) = nI 4 from rfl, pk_mul, nI_add, ckT (gI (N := 240) (by omega) (by decide)), nI_clamp (by omega), zBd_some, ← er, Nat.mul_comm r 4]
      by_cases cl : nI n < nI k
      · have := Int32.lt_iff_toInt_lt.mp cl
        have er : nI n - nI k + (60 : Int32) = nI (n + 60 - k) := nI_of' ((iA (iS tn tk (by omega) (by omega)) (show (60 : Int32).toInt = 60 from rfl) (by omega) (by omega)).trans (by omega))
        rw [if_pos cl, er, fin (n + 60 - k) (by omega) (by omega)]
        exact ⟨_, rfl, rfl⟩
      · have : ¬ (nI n).toInt < (nI k).toInt := fun w => cl (Int32.lt_iff_toInt_lt.mpr w)
        have er : nI n - nI k = nI (n - k) := nI_of' ((iS tn tk (by omega) (by omega)).trans (by omega))
        rw [if_neg cl, er, fin (n - k) (by omega) (by omega)]
        exact ⟨_, rfl, rfl⟩
    · rw [if_neg e, if_neg (show ¬ (0 ≤ a2.toInt ∧ a2.toInt ≤ 3) by omega), if_pos rfl]
      exact ⟨_, rfl, rfl⟩
  · rw [if_neg d, if_neg d, if_pos rfl]
    exact ⟨_, rfl, rfl⟩
theorem pLogQ {a1 a2 : Int32} {μ ξ : gM} (h : LIVE μ ξ) : ∃ v, fX11_log a1 a2 μ = some v ∧ fX12_log a1 a2 ξ = some (v, gUp ξ 267 0 0) := by
  have l0 := h.u0
  unfold fX12_log
  rw [zLt_eq]
  generalize gUp ξ 267 0 0 = ζ at l0 ⊢
  obtain ⟨⟨⟨c, n, ⟨⟨-, -, -, ax⟩, -⟩, -⟩, -⟩, -, -⟩ := l0
  obtain ⟨⟨n, c, q1, q2, q3, q4, q5, q6⟩, -⟩ := ax.2.2 trivial
  exact pLogQ0 q1 q2 q3 q4 q5 q6
/-- the strongest of some members -/
theorem cStrT {s g cn : Nat} {B best : Int32} {μ : gM} (hB : ∀ k, cn ≤ k → k < 6 → bt B k = false) : ∀ (m k : Nat), cn ≤ k → k ≤ 6 → 6 < k + m → fX9_strongest_l5 s m (nI g) B best (nI k) μ = some best := by
  intro m
  induction m with
  | zero => intro k h1 h2 h3; omega
  | succ m ih =>
    intro k h1 h2 h3
    rw [fX9_strongest_l5]
    by_cases c : 6 ≤ k
    · rw [if_pos ((le6 (by omega)).mpr c)]
    · rw [if_neg (fun w => c ((le6 (by omega)).mp w)), if_neg (fun w => by rw [bit1_iff (by omega), hB k h1 (by omega)] at w; exact absurd w (by decide))]
      unfold fX9_strongest_n27
      rw [if_pos rfl, zLt_eq, show nI k + (1 : Int32) = nI (k + 1) from nI_1 k]
      exact ih (k + 1) (by omega) (by omega) (by omega)
theorem nI_m1 {b : Nat} (hb : b < 100000) : ¬ nI b = (-1 : Int32) := fun w => by
  have := tN hb
  rw [w] at this
  have : (-1 : Int32).toInt = -1 := rfl
  omega
theorem pStr_l {s g cn cl cg ct : Nat} {B : Int32} {μ ξ : gM} (nc : NC μ ξ cn cl cg ct) (mw : MW s μ ξ) (hg : g < 5) (hB : ∀ k, k < 6 → bt B k = true → mem (ξ 269) g k ∧ k < cn) : ∀ (m k : Nat) (best : Int32), k ≤ cn → 6 < k + m → (best = -1 ∨ ∃ b, b < k ∧ best = nI b ∧ mem (ξ 269) g b ∧ bt B b = true) → ∃ v, fX9_strongest_l5 s m (nI g) B best (nI k) μ = some v ∧ fX12_strongestOf_l5 m (nI g) B best (nI k) ξ = some v ∧ (v = -1 ∨ ∃ b, b < cn ∧ v = nI b ∧ mem (ξ 269) g b ∧ bt B b = true) := by
  have b6 := nc.1.1
  have h3 := nc.2.2.2.2.2
  have hc := nc.1.2.2.2
  intro m
  induction m with
  | zero => intro k best h1 h2; omega
  | succ m ih =>
    intro k best h1 h2 hb
    by_cases c : k = cn
    · refine ⟨best, cStrT (cn := cn) (fun j j1 j2 => ?_) (m + 1) k (by omega) (by omega) (by omega), ?_, ?_⟩
      · rw [← Bool.not_eq_true]
        exact fun w => absurd (hB j j2 w).2 (by omega)
      · rw [fX12_strongestOf_l5]
        unfold fX12_gates
        rw [zBd_some, nc.2.2.1, if_pos ((nIle (by omega) (by omega)).mpr (by omega))]
      · rcases hb with hb | ⟨b, b1, b2, b3, b4⟩
        · exact Or.inl hb
        · exact Or.inr ⟨b, by omega, b2, b3, b4⟩
    · rw [fX9_strongest_l5, fX12_strongestOf_l5]
      unfold fX12_gates
      rw [zBd_some, nc.2.2.1, if_neg (show ¬ (6 : Int32) ≤ nI k from fun w => by have := (le6 (by omega)).mp w; omega), if_neg (show ¬ nI cn ≤ nI k from fun w => by have := (nIle (by omega) (by omega)).mp w; omega), mIsOf (by omega), zBd_some]
      have e1 : nI k + (1 : Int32) = nI (k + 1) := nI_1 k
      by_cases d : bt B k = true
      · have mk := (hB k (by omega) d).1
        rw [if_pos ((bit1_iff (by omega)).mpr d), if_pos d, if_neg one_n0]
        unfold fX9_strongest_n27
        rw [if_neg one_n0]
        rcases hb with rfl | ⟨b, b1, rfl, b3, b4⟩
        · rw [if_pos rfl, if_pos rfl, zLt_eq, zLt_eq, e1]
          exact ih (k + 1) (nI k) (by omega) (by omega) (Or.inr ⟨k, by omega, rfl, mk, d⟩)
        · have nb := nI_m1 (b := b) (by omega)
          have wk := (mw g k mk).2.2.1
          have wb := (mw g b b3).2.2.1
          rw [if_neg nb, if_neg nb, o6f hg (by omega), o6f hg b3.2.1, ckT (gI (by omega) (by decide)), ckT (gI (by have := b3.2.1; omega) (by decide)), nI_clamp (by omega), nI_clamp (by have := b3.2.1; omega), mWord hg (by omega) h3 hc, zBd_some, mWord hg b3.2.1 h3 hc, zBd_some, ← wk, ← wb]
          unfold fX12_isStronger
          generalize μ (s + 10) (6 * g + k) = x
          generalize μ (s + 10) (6 * g + b) = y
          by_cases q : x < y
          · have q' := Int32.lt_iff_toInt_lt.mp q
            rw [if_pos q, if_neg (fun w => by have := Int32.lt_iff_toInt_lt.mp w; omega), if_neg (fun w => by rw [w] at q'; omega), zBd_some, if_pos rfl, zLt_eq, zLt_eq, e1]
            exact ih (k + 1) (nI b) (by omega) (by omega) (Or.inr ⟨b, by omega, rfl, b3, b4⟩)
          · have q' : ¬ x.toInt < y.toInt := fun w => q (Int32.lt_iff_toInt_lt.mpr w)
            have r : (if y < x then some (1 : Int32) else (if x = y then (if nI k ≤ nI b then some (0 : Int32) else some (1 : Int32)) else some (0 : Int32))) = some 1 := by
              by_cases p : y < x
              · rw [if_pos p]
              · have p' : ¬ y.toInt < x.toInt := fun w => p (Int32.lt_iff_toInt_lt.mpr w)
                rw [if_neg p, if_pos (Int32.toInt_inj.mp (by omega)), if_neg (show ¬ nI k ≤ nI b from fun w => by have := (nIle (by omega) (by omega)).mp w; omega)]
            rw [if_neg q, r, zBd_some, if_neg one_n0, zLt_eq, zLt_eq, e1]
            exact ih (k + 1) (nI k) (by omega) (by omega) (Or.inr ⟨k, by omega, rfl, mk, d⟩)
      · rw [if_neg (fun w => d ((bit1_iff (by omega)).mp w)), if_neg d, if_pos rfl]
        unfold fX9_strongest_n27
        rw [if_pos rfl, zLt_eq, zLt_eq, e1]
        refine ih (k + 1) best (by omega) (by omega) ?_
        rcases hb with hb | ⟨b, b1, b2, b3, b4⟩
        · exact Or.inl hb
        · exact Or.inr ⟨b, by omega, b2, b3, b4⟩
theorem pStrong {s g cn cl cg ct : Nat} {B : Int32} {μ ξ : gM} (nt : NET μ ξ) (nc : NC μ ξ cn cl cg ct) (mw : MW s μ ξ) (hg : g < 5) (hB : ∀ k, k < 6 → bt B k = true → mem (ξ 269) g k) : ∃ v, fX9_strongest s (nI g) B μ = some v ∧ fX12_strongestOf (nI g) B ξ = some v ∧ (v = -1 ∨ ∃ b, b < cn ∧ v = nI b ∧ mem (ξ 269) g b ∧ bt B b = true) := by
  obtain ⟨v, e1, e2, e3⟩ := pStr_l nc mw hg (fun k hk w => ⟨hB k hk w, (nt.mlt nc (hB k hk w)).1⟩) 100000 0 (-1) (by omega) (by omega) (Or.inl rfl)
  exact ⟨v, e1, e2, e3⟩
/-- bits of a part, and those of a set of members in it -/
theorem bt_all : ∀ n : Nat, n ≤ 6 → ∀ k : Nat, k < 32 → bt (((1 : Int32) <<< (nI n &&& 31)) - (1 : Int32)) k = decide (k < n) := by decide +kernel
theorem pPart {s g k cn cl cg ct : Nat} {H : Int32} {μ ξ : gM} (nt : NET μ ξ) (nc : NC μ ξ cn cl cg ct) (hp : μ s 3 = ξ 272 3) (hk : k < cn) (hH : ∀ j, j < 32 → bt H j = true → mem (ξ 269) g j) : ∃ x y, fX9_beside s (nI k) μ = some x ∧ fX12_partOf (nI k) ξ = some y ∧ H &&& x = H &&& y := by
  have b6 := nc.1.1
  unfold fX9_beside fX12_partOf fX12_gates
  rw [zBd_some, zLt_eq, mIsOf (by omega), zBd_some, hp, nc.2.2.1]
  by_cases c : bt (ξ 272 3) k = true
  · rw [if_pos ((bit1_iff (by omega)).mpr c), if_pos c, if_neg one_n0]
    exact ⟨_, _, rfl, rfl, rfl⟩
  · rw [if_neg (fun w => c ((bit1_iff (by omega)).mp w)), if_neg c, if_pos rfl]
    refine ⟨_, _, rfl, rfl, bt_ext (fun j hj => ?_)⟩
    rw [bt_and, bt_and, bt_and, bt_all cn b6 j hj]
    by_cases d : bt H j = true
    · have := (nt.mlt nc (hH j hj d)).1
      rw [decide_eq_true this, Bool.true_and]
    · rw [Bool.not_eq_true] at d
      rw [d, Bool.false_and, Bool.false_and]
theorem GRP.hm {s g : Nat} {lo : Nat → Int} {μ ξ : gM} (gr : GRP s g no lo μ ξ) (hg : g < 5) {j : Nat} (hj : j < 32) (w : bt (μ (s + 5) g) j = true) : mem (ξ 269) g j := by
  by_cases c : j < 6
  · rcases gr.hb hg c with ⟨-, b, -⟩ | ⟨-, b, -⟩ | ⟨-, -, m, -⟩
    · rw [b] at w; exact absurd w (by decide)
    · rw [b] at w; exact absurd w (by decide)
    · exact m
  · rw [gr.2.2.1 j (by omega) hj] at w
    exact absurd w (by decide)
/-- the holder beside a gate -/
theorem pHolder {s g k cn cl cg ct : Nat} {lo : Nat → Int} {μ ξ : gM} (nt : NET μ ξ) (nc : NC μ ξ cn cl cg ct) (mw : MW s μ ξ) (hp : μ s 3 = ξ 272 3) (gr : GRP s g no lo μ ξ) (hg : g < 5) (hk : k < cn) : ∃ v, fX9_holderBeside s (nI g) (nI k) μ = some v ∧ fX12_holderOf (nI g) (nI k) ξ = some v ∧ (v = -1 ∨ ∃ b, b < cn ∧ v = nI b ∧ mem (ξ 269) g b) := by
  unfold fX9_holderBeside fX12_holderOf
  obtain ⟨x, y, e1, e2, e3⟩ := pPart (H := μ (s + 5) g) nt nc hp hk (fun j hj w => gr.hm hg hj w)
  rw [ckT (gI hg (by decide)), e1, zBd_some, nI_clamp (by omega), mHeld nt gr hg, zBd_some, e2, zBd_some, ← e3]
  obtain ⟨v, f1, f2, f3⟩ := pStrong (s := s) (B := μ (s + 5) g &&& x) nt nc mw hg (fun j hj w => gr.hm hg (by omega) (by rw [bt_and] at w; exact (Bool.and_eq_true _ _ ▸ w).1))
  rw [f1, zBd_some, f2, zBd_some]
  refine ⟨v, rfl, rfl, ?_⟩
  rcases f3 with f3 | ⟨b, b1, b2, b3, -⟩
  · exact Or.inl f3
  · exact Or.inr ⟨b, b1, b2, b3⟩
theorem pHolderQ {a1 a2 : Int32} {μ ξ : gM} (h : LIVE μ ξ) : ∃ v, fX11_holder a1 a2 μ = some v ∧ fX12_holder a1 a2 ξ = some (v, gUp ξ 267 0 0) := by
  have l0 := h.u0
  unfold fX11_holder fX12_holder
  rw [zLt_eq]
  generalize gUp ξ 267 0 0 = ζ at l0 ⊢
  obtain ⟨cn, cl, cg, ct, nc⟩ := l0.nc
  obtain ⟨⟨⟨c, n, ⟨⟨nt, nu, mw, ax⟩, grs, cns⟩, pln, -⟩, -⟩, -, ps⟩ := l0
  have b5 := nc.1.2.2.1
  rcases pairG (a1 := a1) (a2 := a2) nc with ⟨g, k, hg, hk, rfl, rfl, g1, g2, g3⟩ | ⟨g1, g2 | ⟨g2, g3⟩⟩
  · obtain ⟨v, e1, e2, -⟩ := pHolder (s := 34) (k := k) nt nc mw nu.2.2.2.1 (grs g (by omega)) (by omega) hk
    rw [g1, g2, zBd_some, zBd_some, if_neg one_n0, if_neg one_n0, g3, zBd_some, if_neg one_n0, e1, e2]
    exact ⟨_, rfl, rfl⟩
  · rw [g1, g2, zBd_some, zBd_some, if_pos rfl, if_pos rfl]
    exact ⟨_, rfl, rfl⟩
  · rw [g1, g2, zBd_some, zBd_some, if_pos rfl, if_neg one_n0, g3, zBd_some, if_pos rfl]
    exact ⟨_, rfl, rfl⟩
/-- which groups are double -/
theorem cDoub_t {cg : Nat} {μ : gM} (h0 : ∀ g, cg ≤ g → g < 5 → μ 39 g = 0) : ∀ (m k : Nat) (acc : Int32), cg ≤ k → k ≤ 5 → 5 < k + m → fX11_doubles_l16 m acc (nI k) μ = some acc := by
  intro m
  induction m with
  | zero => intro k acc h1 h2 h3; omega
  | succ m ih =>
    intro k acc h1 h2 h3
    rw [fX11_doubles_l16]
    by_cases c : 5 ≤ k
    · rw [if_pos ((le5 (by omega)).mpr c)]
    · have e : μ (34 + 5) k = 0 := h0 k h1 (by omega)
      have e1 : nI k + (1 : Int32) = nI (k + 1) := nI_1 k
      rw [if_neg (fun w => c ((le5 (by omega)).mp w)), cDouble (s := 34) (by omega) (by rw [e]; decide), zBd_some, e, dbl_0, if_pos rfl, or0, zLt_eq, zLt_eq, e1]
      exact ih (k + 1) acc (by omega) (by omega) (by omega)
theorem pDoub_l {cn cl cg ct : Nat} {μ ξ : gM} (nt : NET μ ξ) (nc : NC μ ξ cn cl cg ct) (hp : μ 34 3 = ξ 272 3) (grs : GRS 34 μ ξ) : ∀ (m k : Nat) (acc : Int32), k ≤ cg → 5 < k + m → ∃ v, fX11_doubles_l16 m acc (nI k) μ = some v ∧ fX12_doubles_l18 m acc (nI k) ξ = some (v, ξ) := by
  have b5 := nc.1.2.2.1
  intro m
  induction m with
  | zero => intro k acc h1 h2; omega
  | succ m ih =>
    intro k acc h1 h2
    by_cases c : k = cg
    · refine ⟨acc, cDoub_t (cg := cg) (fun g q1 q2 => (grs g q2).h0 nt nc q2 q1) (m + 1) k acc (by omega) (by omega) (by omega), ?_⟩
      rw [fX12_doubles_l18]
      unfold fX12_groups
      rw [zBd_some, nc.2.2.2.2.1, if_pos ((nIle (by omega) (by omega)).mpr (by omega))]
    · have gr := grs k (by omega)
      have e1 : nI k + (1 : Int32) = nI (k + 1) := nI_1 k
      rw [fX11_doubles_l16, fX12_doubles_l18]
      unfold fX12_groups
      rw [zBd_some, nc.2.2.2.2.1, if_neg (show ¬ (5 : Int32) ≤ nI k from fun w => by have := (le5 (by omega)).mp w; omega), if_neg (show ¬ nI cg ≤ nI k from fun w => by have := (nIle (by omega) (by omega)).mp w; omega), cDouble (s := 34) (by omega) gr.h63, zBd_some, mDouble (s := 34) nt gr (by omega), zBd_some, hp, mFlag (dbl01 _ _), zBd_some, zLt_eq, zLt_eq, e1]
      rcases dbl01 (ξ 272 3) (μ (34 + 5) k) with e | e
      · rw [e, if_pos rfl, zLt_eq, zLt_eq, sh0 k (by omega)]
        exact ih (k + 1) _ (by omega) (by omega)
      · rw [e, if_neg one_n0, zLt_eq, zLt_eq]
        exact ih (k + 1) _ (by omega) (by omega)
theorem pDoublesQ {μ ξ : gM} (h : LIVE μ ξ) (t1 : μ 4 0 = 1) (t2 : ξ 267 15 = 1) : ∃ v, fX11_doubles μ = some v ∧ fX12_doubles ξ = some (v, gUp ξ 267 0 0) := by
  have l0 := h.u0
  have t2' : gUp ξ 267 0 0 267 15 = 1 := by rw [zUp_slot _ (by decide)]; exact t2
  unfold fX11_doubles fX12_doubles
  rw [zLt_eq]
  generalize gUp ξ 267 0 0 = ζ at l0 t2' ⊢
  obtain ⟨cn, cl, cg, ct, nc⟩ := l0.nc
  obtain ⟨⟨⟨c, n, ⟨⟨nt, nu, mw, ax⟩, grs, cns⟩, pln, -⟩, -⟩, -, ps⟩ := l0
  rw [if_neg (show ¬ μ 4 0 = 0 by rw [t1]; decide), if_neg (show ¬ ζ 267 15 = 0 by rw [t2']; decide)]
  exact pDoub_l nt nc nu.2.2.2.1 grs 100000 0 0 (by omega) (by omega)
theorem cOrp_t {cg : Nat} {μ : gM} (h0 : ∀ g, cg ≤ g → g < 5 → μ 39 g = 0 ∧ μ 11 g = 0) : ∀ (m k : Nat) (acc : Int32), cg ≤ k → k ≤ 5 → 5 < k + m → fX11_orphans_l16 m acc (nI k) μ = some acc := by
  intro m
  induction m with
  | zero => intro k acc h1 h2 h3; omega
  | succ m ih =>
    intro k acc h1 h2 h3
    rw [fX11_orphans_l16]
    by_cases c : 5 ≤ k
    · rw [if_pos ((le5 (by omega)).mpr c)]
    · obtain ⟨e, f⟩ := h0 k h1 (by omega)
      have e1 : nI k + (1 : Int32) = nI (k + 1) := nI_1 k
      have gi : gIn (nI k) 5 = true := gI (by omega) (by decide)
      have z : (0 : Int32) &&& μ 34 1 = 0 := bt_z.mpr (fun j _ => by rw [bt_and, bt_zero, Bool.false_and])
      rw [if_neg (fun w => c ((le5 (by omega)).mp w)), ckT gi, nI_clamp (by omega), if_pos e, ckT gi, f, if_pos z]
      unfold fX11_orphans_n58
      rw [if_pos rfl, or0, zLt_eq, zLt_eq, e1]
      exact ih (k + 1) acc (by omega) (by omega) (by omega)
theorem pOrp_l {cn cl cg ct : Nat} {μ ξ : gM} (nt : NET μ ξ) (nc : NC μ ξ cn cl cg ct) (hu : μ 34 1 = ξ 272 1) (grs : GRS 34 μ ξ) : ∀ (m k : Nat) (acc : Int32), k ≤ cg → 5 < k + m → ∃ v, fX11_orphans_l16 m acc (nI k) μ = some v ∧ fX12_orphans_l18 m acc (nI k) ξ = some (v, ξ) := by
  have b5 := nc.1.2.2.1
  intro m
  induction m with
  | zero => intro k acc h1 h2; omega
  | succ m ih =>
    intro k acc h1 h2
    by_cases c : k = cg
    · refine ⟨acc, cOrp_t (cg := cg) (fun g q1 q2 => ⟨(grs g q2).h0 nt nc q2 q1, by rw [nt.m11 q2]; exact nt.m0 nc q2 q1⟩) (m + 1) k acc (by omega) (by omega) (by omega), ?_⟩
      rw [fX12_orphans_l18]
      unfold fX12_groups
      rw [zBd_some, nc.2.2.2.2.1, if_pos ((nIle (by omega) (by omega)).mpr (by omega))]
    · have gr := grs k (by omega)
      have e1 : nI k + (1 : Int32) = nI (k + 1) := nI_1 k
      have gi : gIn (nI k) 5 = true := gI (by omega) (by decide)
      rw [fX11_orphans_l16, fX12_orphans_l18]
      unfold fX12_groups
      rw [zBd_some, nc.2.2.2.2.1, if_neg (show ¬ (5 : Int32) ≤ nI k from fun w => by have := (le5 (by omega)).mp w; omega), if_neg (show ¬ nI cg ≤ nI k from fun w => by have := (nIle (by omega) (by omega)).mp w; omega), mOrphan (s := 34) nt gr (by omega), zBd_some, mFlag (orp01 _ _ _), zBd_some, zLt_eq, zLt_eq, e1, ckT gi, nI_clamp (by omega), hu, nt.m11 (by omega)]
      unfold fX11_orphans_n58
      have eo : orp (ξ 269 (48 + k)) (ξ 272 1) (μ (34 + 5) k) = (if ξ 269 (48 + k) &&& ξ 272 1 = 0 then 0 else if μ 39 k = 0 then 1 else 0) := rfl
      rw [eo]
      by_cases q : μ 39 k = 0
      · rw [if_pos q, ckT gi]
        by_cases r : ξ 269 (48 + k) &&& ξ 272 1 = 0
        · rw [if_pos r, if_pos r, if_pos rfl, zLt_eq, zLt_eq, e1, sh0 k (by omega)]
          exact ih (k + 1) _ (by omega) (by omega)
        · rw [if_neg r, if_neg r, if_pos q, if_neg one_n0, zLt_eq, zLt_eq, e1]
          exact ih (k + 1) _ (by omega) (by omega)
      · have z : (if ξ 269 (48 + k) &&& ξ 272 1 = 0 then (0 : Int32) else if μ 39 k = 0 then 1 else 0) = 0 := by
          rw [if_neg q]
          split <;> rfl
        rw [z, if_neg q, if_pos rfl, zLt_eq, zLt_eq, e1, sh0 k (by omega)]
        exact ih (k + 1) _ (by omega) (by omega)
theorem pOrphansQ {μ ξ : gM} (h : LIVE μ ξ) (t1 : μ 4 0 = 1) (t2 : ξ 267 15 = 1) : ∃ v, fX11_orphans μ = some v ∧ fX12_orphans ξ = some (v, gUp ξ 267 0 0) := by
  have l0 := h.u0
  have t2' : gUp ξ 267 0 0 267 15 = 1 := by rw [zUp_slot _ (by decide)]; exact t2
  unfold fX11_orphans fX12_orphans
  rw [zLt_eq]
  generalize gUp ξ 267 0 0 = ζ at l0 t2' ⊢
  obtain ⟨cn, cl, cg, ct, nc⟩ := l0.nc
  obtain ⟨⟨⟨c, n, ⟨⟨nt, nu, mw, ax⟩, grs, cns⟩, pln, -⟩, -⟩, -, ps⟩ := l0
  rw [if_neg (show ¬ μ 4 0 = 0 by rw [t1]; decide), if_neg (show ¬ ζ 267 15 = 0 by rw [t2']; decide)]
  exact pOrp_l nt nc nu.2.1 grs 100000 0 0 (by omega) (by omega)
/-- which groups a gate holds -/
theorem mDoesH {s g k : Nat} {lo : Nat → Int} {μ ξ : gM} (gr : GRP s g no lo μ ξ) (hg : g < 5) (hk : k < 6) : fX12_doesHold (nI g) (nI k) ξ = some (if bt (μ (s + 5) g) k = true then 1 else 0) := by
  unfold fX12_doesHold
  rw [mOf ξ hg hk, zBd_some, ckT (ig (x := 40) (b := 40) (N := 490) (by omega) (by decide) rfl), ix (x := 40) (b := 40) (by omega) rfl]
  rcases gr.hb hg hk with ⟨a, b, -⟩ | ⟨a, b, -⟩ | ⟨a, b, -⟩
  · rw [a, b, if_neg (by decide), if_neg (by decide)]
  · rw [a, b, if_neg (by decide), if_neg (by decide)]
  · rw [a, b, if_pos rfl, if_pos rfl]
theorem andB (x : Int32) {k : Nat} (hk : k < 32) : ((x >>> (nI k &&& 31)) &&& (1 : Int32)) = if bt x k = true then 1 else 0 := by
  by_cases c : bt x k = true
  · rw [if_pos c, (bit1_iff hk).mpr c]
  · rw [if_neg c, (bit0_iff hk).mpr (by rw [← Bool.not_eq_true]; exact c)]
theorem cHolds_t {cg k : Nat} {μ : gM} (hk : k < 32) (h0 : ∀ g, cg ≤ g → g < 5 → μ 39 g = 0) : ∀ (m g : Nat) (acc : Int32), cg ≤ g → g ≤ 5 → 5 < g + m → fX11_holds_l18 m (nI k) acc (nI g) μ = some acc := by
  intro m
  induction m with
  | zero => intro g acc h1 h2 h3; omega
  | succ m ih =>
    intro g acc h1 h2 h3
    rw [fX11_holds_l18]
    by_cases c : 5 ≤ g
    · rw [if_pos ((le5 (by omega)).mpr c)]
    · have e1 : nI g + (1 : Int32) = nI (g + 1) := nI_1 g
      rw [if_neg (fun w => c ((le5 (by omega)).mp w)), ckT (gI (by omega) (by decide)), nI_clamp (by omega), h0 g h1 (by omega), andB 0 hk, if_neg (by rw [bt_zero]; decide), sh0 g (by omega), or0, zLt_eq, zLt_eq, e1]
      exact ih (g + 1) acc (by omega) (by omega) (by omega)
theorem pHolds_l {cn cl cg ct k : Nat} {μ ξ : gM} (nt : NET μ ξ) (nc : NC μ ξ cn cl cg ct) (hk : k < 6) (grs : GRS 34 μ ξ) : ∀ (m g : Nat) (acc : Int32), g ≤ cg → 5 < g + m → ∃ v, fX11_holds_l18 m (nI k) acc (nI g) μ = some v ∧ fX12_holds_l19 m (nI k) acc (nI g) ξ = some (v, ξ) := by
  have b5 := nc.1.2.2.1
  intro m
  induction m with
  | zero => intro g acc h1 h2; omega
  | succ m ih =>
    intro g acc h1 h2
    by_cases c : g = cg
    · refine ⟨acc, cHolds_t (cg := cg) (by omega) (fun g q1 q2 => (grs g q2).h0 nt nc q2 q1) (m + 1) g acc (by omega) (by omega) (by omega), ?_⟩
      rw [fX12_holds_l19]
      unfold fX12_groups
      rw [zBd_some, nc.2.2.2.2.1, if_pos ((nIle (by omega) (by omega)).mpr (by omega))]
    · have gr := grs g (by omega)
      have e1 : nI g + (1 : Int32) = nI (g + 1) := nI_1 g
      rw [fX11_holds_l18, fX12_holds_l19]
      unfold fX12_groups
      rw [zBd_some, nc.2.2.2.2.1, if_neg (show ¬ (5 : Int32) ≤ nI g from fun w => by have := (le5 (by omega)).mp w; omega), if_neg (show ¬ nI cg ≤ nI g from fun w => by have := (nIle (by omega) (by omega)).mp w; omega), ckT (gI (by omega) (by decide)), nI_clamp (by omega), andB _ (by omega), mDoesH (s := 34) gr (by omega) hk, zBd_some, zLt_eq, zLt_eq, e1]
      have ef : fX12_flag (if bt (μ (34 + 5) g) k = true then 1 else 0) ξ = some (if bt (μ (34 + 5) g) k = true then 1 else 0) := mFlag (by split; exact Or.inr rfl; exact Or.inl rfl)
      rw [ef, zBd_some, zLt_eq, zLt_eq]
      exact ih (g + 1) _ (by omega) (by omega)
theorem pHoldsQ {a1 : Int32} {μ ξ : gM} (h : LIVE μ ξ) : ∃ v, fX11_holds a1 μ = some v ∧ fX12_holds a1 ξ = some (v, gUp ξ 267 0 0) := by
  have l0 := h.u0
  unfold fX11_holds fX12_holds
  rw [zLt_eq]
  generalize gUp ξ 267 0 0 = ζ at l0 ⊢
  obtain ⟨cn, cl, cg, ct, nc⟩ := l0.nc
  obtain ⟨⟨⟨c, n, ⟨⟨nt, nu, mw, ax⟩, grs, cns⟩, pln, -⟩, -⟩, -, ps⟩ := l0
  have b6 := nc.1.1
  rcases gateG (a1 := a1) nc with ⟨k, hk, rfl, g1, g2⟩ | ⟨g1, g2⟩
  · rw [g1, g2, zBd_some, zBd_some, if_neg one_n0, if_neg one_n0]
    exact pHolds_l nt nc (by omega) grs 100000 0 0 (by omega) (by omega)
  · rw [g1, g2, zBd_some, zBd_some, if_pos rfl, if_pos rfl]
    exact ⟨_, rfl, rfl⟩
