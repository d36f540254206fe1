/-! slots of load: both alike -/
theorem NC.fr {cn cl cg ct : Nat} {μ ξ μ' ξ' : gM} (h : NC μ ξ cn cl cg ct) (h4 : μ' 4 = μ 4) (h5 : μ' 5 = μ 5) (h9 : ξ' 269 = ξ 269) : NC μ' ξ' cn cl cg ct := by
  unfold NC at *
  rw [h4, h5, h9]
  exact h
/-- what the gates have got -/
def HG (n : Int) (μ ξ : gM) : Prop := ∀ k, k < 6 → μ 266 k = ξ 277 k ∧ 0 ≤ (ξ 277 k).toInt ∧ (ξ 277 k).toInt ≤ n
def BST (g : Nat) (ξ : gM) (best bs bp : Int32) : Prop := (best = -1 ∧ bs = 0 ∧ bp = 1) ∨ ∃ b, b < 6 ∧ best = nI b ∧ bs = ξ 269 (83 + (6 * g + b)) ∧ bp = ξ 277 b + 1
def mSlTail (K : Int32 → Int32 → Int32 → gM → Option gM) (y1 y3 y4 y5 : Int32) (μ : gM) : Option gM := zCk (gIn y4 8) (zLt (gUp μ 276 (y4).toNatClampNeg y5) (fun μ7 => (if y5 = (-1 : Int32) then zLt (y4 + (1 : Int32)) (fun x8 => (K y1 y3 x8 μ7)) else zCk (gIn y5 6) (zCk (gIn y5 6) (zLt (gUp μ7 277 (y5).toNatClampNeg ((μ7 277 (y5).toNatClampNeg) + (1 : Int32))) (fun μ11 => zLt (y4 + (1 : Int32)) (fun x12 => (K y1 y3 x12 μ11))))))))
theorem le8 {k : Nat} (hk : k < 1000) : (8 : Int32) ≤ nI k ↔ 8 ≤ k := nIle (a := 8) (by omega) hk
theorem le1 {k : Nat} (hk : k < 1000) : (1 : Int32) ≤ nI k ↔ 1 ≤ k := nIle (a := 1) (by omega) hk
theorem keep0 {bs bp x : Int32} (h1 : 0 ≤ bs.toInt ∧ bs.toInt ≤ 99) (h2 : 0 ≤ x.toInt ∧ x.toInt ≤ 9) : (0 : Int32) * bp ≤ bs * x := by
  have p1 : 0 ≤ bs.toInt * x.toInt := Int.mul_nonneg h1.1 h2.1
  have p2 : bs.toInt * x.toInt ≤ 99 * 9 := Int.mul_le_mul h1.2 h2.2 h2.1 (by decide)
  have e : (bs * x).toInt = bs.toInt * x.toInt := iM rfl rfl (by omega) (by omega)
  refine Int32.le_iff_toInt_le.mpr ?_
  rw [Int32.zero_mul, e]
  exact p1
theorem inc9 {x : Int32} (h : 0 ≤ x.toInt ∧ x.toInt ≤ 8) : 0 ≤ (x + 1).toInt ∧ (x + 1).toInt ≤ 9 := by
  have e : (x + 1).toInt = x.toInt + 1 := iA rfl (show (1 : Int32).toInt = 1 from rfl) (by omega) (by omega)
  omega
theorem BST.b {g : Nat} {ξ : gM} {best bs bp : Int32} (h : BST g ξ best bs bp) (hs : ∀ b, b < 6 → best = nI b → 0 ≤ (ξ 269 (83 + (6 * g + b))).toInt ∧ (ξ 269 (83 + (6 * g + b))).toInt ≤ 99) : 0 ≤ bs.toInt ∧ bs.toInt ≤ 99 := by
  rcases h with ⟨-, e, -⟩ | ⟨b, hb, e, e2, -⟩
  · rw [e]; decide
  · rw [e2]; exact hs b hb e
theorem cNeedT {g cn : Nat} {T best bs bp : Int32} {μ ξ : gM} (hT : ∀ k, cn ≤ k → k < 6 → bt T k = false) (hh : HG 8 μ ξ) (hb : 0 ≤ bs.toInt ∧ bs.toInt ≤ 99) : ∀ (m k : Nat), cn ≤ k → k ≤ 6 → 6 < k + m → fX8_neediest_l11 m (nI g) T best bs bp (nI k) μ = some best := by
  intro m
  induction m with
  | zero => intro k h1 h2 h3; omega
  | succ m ih =>
    intro k h1 h2 h3
    rw [fX8_neediest_l11]
    by_cases c : 6 ≤ k
    · rw [if_pos ((le6 (by omega)).mpr c)]
    · obtain ⟨e, e1, e2⟩ := hh k (by omega)
      rw [if_neg (fun w => c ((le6 (by omega)).mp w)), if_neg (fun w => by rw [bit1_iff (by omega), hT k h1 (by omega)] at w; exact absurd w (by decide))]
      unfold fX8_neediest_n47
      rw [ckT (gI (by omega) (by decide)), nI_clamp (by omega), zLt_eq, e, if_pos (keep0 hb (inc9 ⟨e1, e2⟩)), zLt_eq, show nI k + (1 : Int32) = nI (k + 1) from nI_1 k]
      exact ih (k + 1) (by omega) (by omega) (by omega)
theorem pNeed_l {g cn cl cg ct : Nat} {T y4 : Int32} {μ ξ : gM} {K : Int32 → Int32 → Int32 → gM → Option gM} (nt : NET μ ξ) (nc : NC μ ξ cn cl cg ct) (hg : g < 5) (hT : ∀ k, k < 6 → bt T k = true → mem (ξ 269) g k) (hh : HG 8 μ ξ) : ∀ (m k : Nat) (best bs bp : Int32), k ≤ cn → 6 < k + m → BST g ξ best bs bp → (∀ b, b < 6 → best = nI b → mem (ξ 269) g b) → ∃ v, fX8_neediest_l11 m (nI g) T best bs bp (nI k) μ = some v ∧ fX12_laysSlots_l60 K m (nI g) T y4 best (nI k) ξ = mSlTail K (nI g) T y4 v ξ ∧ (v = -1 ∨ ∃ b, b < 6 ∧ v = nI b) := by
  have b6 := nc.1.1
  have shr : ∀ b, mem (ξ 269) g b → μ 13 (6 * g + b) = ξ 269 (83 + (6 * g + b)) ∧ 0 ≤ (ξ 269 (83 + (6 * g + b))).toInt ∧ (ξ 269 (83 + (6 * g + b))).toInt ≤ 99 := fun b m => by
    obtain ⟨-, q2, q3, -⟩ := nt.2.2.1 g b hg m.2.1 (nt.mb m)
    exact ⟨q2, q3.2⟩
  intro m
  induction m with
  | zero => intro k best bs bp h1 h2; omega
  | succ m ih =>
    intro k best bs bp h1 h2 hb hm
    have bb := hb.b (fun b q1 q2 => (shr b (hm b q1 q2)).2)
    by_cases c : k = cn
    · refine ⟨best, cNeedT (cn := cn) (ξ := ξ) (fun j j1 j2 => ?_) hh bb (m + 1) k (by omega) (by omega) (by omega), ?_, ?_⟩
      · rw [← Bool.not_eq_true]
        exact fun w => absurd (nt.mlt nc (hT j j2 w)).1 (by omega)
      · rw [fX12_laysSlots_l60]
        unfold fX12_gates
        rw [zBd_some, nc.2.2.1, if_pos ((nIle (by omega) (by omega)).mpr (by omega))]
        rfl
      · rcases hb with ⟨e, -⟩ | ⟨b, q1, q2, -⟩
        · exact Or.inl e
        · exact Or.inr ⟨b, q1, q2⟩
    · obtain ⟨ek, ek1, ek2⟩ := hh k (by omega)
      have e1 : nI k + (1 : Int32) = nI (k + 1) := nI_1 k
      rw [fX8_neediest_l11, fX12_laysSlots_l60]
      unfold fX12_gates
      rw [zBd_some, nc.2.2.1, if_neg (show ¬ (6 : Int32) ≤ nI k from fun w => by have := (le6 (by omega)).mp w; omega), if_neg (show ¬ nI cn ≤ nI k from fun w => by have := (nIle (by omega) (by omega)).mp w; omega), mIsOf (by omega), zBd_some]
      have keep : fX8_neediest_n47 (fX8_neediest_l11 m) (nI g) T best bs bp (nI k) (0 : Int32) μ = fX8_neediest_l11 m (nI g) T best bs bp (nI (k + 1)) μ := by
        unfold fX8_neediest_n47
        rw [ckT (gI (by omega) (by decide)), nI_clamp (by omega), zLt_eq, ek, if_pos (keep0 bb (inc9 ⟨ek1, ek2⟩)), zLt_eq, e1]
      by_cases d : bt T k = true
      · have mk := hT k (by omega) d
        obtain ⟨s1, s2, s3⟩ := shr k mk
        rw [if_pos ((bit1_iff (by omega)).mpr d), if_pos d, if_neg one_n0, o6f hg (by omega), ckT (gI (N := 30) (by omega) (by decide)), nI_clamp (n := 6 * g + k) (by omega), s1, mOf ξ hg (by omega), zBd_some, ckT (ig (x := 83) (b := 83) (N := 209) (by omega) (by decide) rfl), ix (x := 83) (b := 83) (by omega) rfl]
        by_cases z : ξ 269 (83 + (6 * g + k)) = 0
        · rw [if_pos z, z, keep, zLt_eq, e1]
          exact ih (k + 1) best bs bp (by omega) (by omega) hb hm
        · rw [if_neg z]
          have sp : 1 ≤ (ξ 269 (83 + (6 * g + k))).toInt := by
            have : (ξ 269 (83 + (6 * g + k))).toInt ≠ 0 := fun w => z (Int32.toInt_inj.mp w)
            omega
          unfold fX8_neediest_n47
          rw [ckT (gI (N := 6) (by omega) (by decide)), nI_clamp (n := k) (by omega), zLt_eq, ek]
          rcases hb with ⟨rfl, rfl, rfl⟩ | ⟨b, q1, rfl, rfl, rfl⟩
          · have x9 := inc9 ⟨ek1, ek2⟩
            rw [if_pos rfl, if_neg (fun w => by
              have := Int32.le_iff_toInt_le.mp w
              rw [Int32.zero_mul, Int32.mul_one] at this
              have z0 : (0 : Int32).toInt = 0 := rfl
              omega), zLt_eq, zLt_eq, e1]
            exact ih (k + 1) (nI k) _ _ (by omega) (by omega) (Or.inr ⟨k, by omega, rfl, rfl, rfl⟩) (fun b w1 w2 => by
              have : k = b := nI_inj (by omega) (by omega) w2
              subst this; exact mk)
          · have nb := nI_m1 (b := b) (by omega)
            rw [if_neg nb, zBd_some, ckT (ig (x := 83) (b := 83) (m := 6 * g + k) (N := 209) (by omega) (by decide) rfl), ckT (gI (N := 6) q1 (by decide)), mOf ξ hg q1, zBd_some, ckT (ig (x := 83) (b := 83) (m := 6 * g + b) (N := 209) (by omega) (by decide) rfl), ckT (gI (N := 6) (by omega) (by decide)), ix (x := 83) (b := 83) (m := 6 * g + k) (by omega) rfl, ix (x := 83) (b := 83) (m := 6 * g + b) (by omega) rfl, nI_clamp (n := b) (by omega)]
            by_cases q : ξ 269 (83 + (6 * g + k)) * (ξ 277 b + 1) ≤ ξ 269 (83 + (6 * g + b)) * (ξ 277 k + 1)
            · rw [if_pos q, if_pos q, zLt_eq, zLt_eq, e1]
              exact ih (k + 1) (nI b) _ _ (by omega) (by omega) (Or.inr ⟨b, q1, rfl, rfl, rfl⟩) hm
            · rw [if_neg q, if_neg q, zLt_eq, zLt_eq, e1]
              exact ih (k + 1) (nI k) _ _ (by omega) (by omega) (Or.inr ⟨k, by omega, rfl, rfl, rfl⟩) (fun b w1 w2 => by
                have : k = b := nI_inj (by omega) (by omega) w2
                subst this; exact mk)
      · rw [if_neg (fun w => d ((bit1_iff (by omega)).mp w)), if_neg d, if_pos rfl, keep, zLt_eq, e1]
        exact ih (k + 1) best bs bp (by omega) (by omega) hb hm
/-- who has which slot, so far -/
def SLT (n : Nat) (μ ξ : gM) : Prop := ∀ i, i < n → μ 265 i = ξ 276 i
def CFs (μ μ' : gM) : Prop := ∀ a, a ≠ 265 → a ≠ 266 → μ' a = μ a
def MFs (ξ ξ' : gM) : Prop := ∀ a, a ≠ 276 → a ≠ 277 → ξ' a = ξ a
theorem cLay_t {g sl : Nat} {T : Int32} (hg : g < 5) : ∀ (m n : Nat) (μ : gM), μ 10 g = nI sl → sl ≤ n → n ≤ 8 → 8 < n + m → ∃ μ', fX8_lay_l54 m (nI g) T (nI n) μ = some μ' ∧ CFs μ μ' ∧ μ' 266 = μ 266 ∧ ∀ i, i < n → μ' 265 i = μ 265 i := by
  intro m
  induction m with
  | zero => intro n μ h0 h1 h2 h3; omega
  | succ m ih =>
    intro n μ h0 h1 h2 h3
    rw [fX8_lay_l54]
    by_cases c : 8 ≤ n
    · rw [if_pos ((le8 (by omega)).mpr c)]
      exact ⟨μ, rfl, fun _ _ _ => rfl, rfl, fun _ _ => rfl⟩
    · rw [if_neg (fun w => c ((le8 (by omega)).mp w)), ckT (gI hg (by decide)), nI_clamp (by omega), h0, if_pos ((nIle (by omega) (by omega)).mpr h1)]
      unfold fX8_lay_n85
      rw [ckT (gI (N := 8) (by omega) (by decide)), nI_clamp (by omega), zLt_eq, if_pos rfl, zLt_eq, show nI n + (1 : Int32) = nI (n + 1) from nI_1 n]
      obtain ⟨μ', e, f1, f2, f3⟩ := ih (n + 1) (gUp μ 265 n (-1)) (by rw [zUp_ne _ (by decide)]; exact h0) (by omega) (by omega) (by omega)
      exact ⟨μ', e, fun a q1 q2 => by rw [f1 a q1 q2, zUp_ne _ q1], by rw [f2, zUp_ne _ (by decide)], fun i hi => by rw [f3 i (by omega), zUp_slot _ (by omega)]⟩
theorem pLay_l {g cn cl cg ct sl : Nat} {T : Int32} (hg : g < 5) (h8 : sl ≤ 8) : ∀ (m n : Nat) (μ ξ : gM), NET μ ξ → NC μ ξ cn cl cg ct → μ 10 g = nI sl → ξ 269 (43 + g) = nI sl → (∀ k, k < 6 → bt T k = true → mem (ξ 269) g k) → HG (n : Int) μ ξ → SLT n μ ξ → n ≤ sl → 8 < n + m → ∃ μ' ξ', fX8_lay_l54 m (nI g) T (nI n) μ = some μ' ∧ fX12_laysSlots_l40 m (nI g) T (nI n) ξ = some ξ' ∧ CFs μ μ' ∧ MFs ξ ξ' ∧ SLT sl μ' ξ' ∧ ∀ k, k < 6 → μ' 266 k = ξ' 277 k := by
  intro m
  induction m with
  | zero => intro n μ ξ nt nc h0 h1 hT hh hs h2 h3; omega
  | succ m ih =>
    intro n μ ξ nt nc h0 h1 hT hh hs h2 h3
    by_cases c : n = sl
    · subst c
      obtain ⟨μ', e, f1, f2, f3⟩ := cLay_t (g := g) (sl := n) (T := T) hg (m + 1) n μ h0 (by omega) (by omega) (by omega)
      refine ⟨μ', ξ, e, ?_, f1, fun _ _ _ => rfl, fun i hi => by rw [f3 i hi]; exact hs i hi, fun k hk => by rw [f2]; exact (hh k hk).1⟩
      rw [fX12_laysSlots_l40, ckT (ig (x := 43) (b := 43) (N := 209) (by omega) (by decide) rfl), ix (x := 43) (b := 43) (by omega) rfl, h1, if_pos ((nIle (by omega) (by omega)).mpr (by omega))]
    · obtain ⟨v, v1, v2, v3⟩ := pNeed_l (y4 := nI n) (K := fX12_laysSlots_l40 m) nt nc hg hT (fun k hk => ⟨(hh k hk).1, (hh k hk).2.1, by have := (hh k hk).2.2; omega⟩) 100000 0 (-1) 0 1 (by omega) (by omega) (Or.inl ⟨rfl, rfl, rfl⟩) (fun b _ w => absurd w.symm (nI_m1 (by omega)))
      have v1' : fX8_neediest (nI g) T μ = some v := by unfold fX8_neediest; exact v1
      have v2' : fX12_laysSlots_l60 (fX12_laysSlots_l40 m) 100000 (nI g) T (nI n) (-1 : Int32) (0 : Int32) ξ = mSlTail (fX12_laysSlots_l40 m) (nI g) T (nI n) v ξ := v2
      have e1 : nI n + (1 : Int32) = nI (n + 1) := nI_1 n
      rw [fX8_lay_l54, fX12_laysSlots_l40, if_neg (show ¬ (8 : Int32) ≤ nI n from fun w => by have := (le8 (by omega)).mp w; omega), ckT (gI hg (by decide)), nI_clamp (n := g) (by omega), h0, if_neg (show ¬ nI sl ≤ nI n from fun w => by have := (nIle (by omega) (by omega)).mp w; omega), v1', zBd_some, ckT (ig (x := 43) (b := 43) (N := 209) (by omega) (by decide) rfl), ix (x := 43) (b := 43) (by omega) rfl, h1, if_neg (show ¬ nI sl ≤ nI n from fun w => by have := (nIle (by omega) (by omega)).mp w; omega), v2']
      unfold fX8_lay_n85 mSlTail
      have g8 : gIn (nI n) 8 = true := gI (by omega) (by decide)
      rw [ckT g8, ckT g8, nI_clamp (n := n) (by omega), zLt_eq]
      have sl1 : SLT (n + 1) (gUp μ 265 n v) (gUp ξ 276 n v) := fun i hi => by
        by_cases ei : i = n
        · subst ei; rw [zUp_same, zUp_same]
        · rw [zUp_slot _ ei, zUp_slot _ ei]; exact hs i (by omega)
      rcases v3 with rfl | ⟨b, b1, rfl⟩
      · rw [if_pos rfl, zLt_eq, zLt_eq, if_pos rfl, zLt_eq, e1]
        obtain ⟨μ', ξ', f1, f2, f3, f4, f5, f6⟩ := ih (n + 1) (gUp μ 265 n (-1)) (gUp ξ 276 n (-1)) (nt.fr (fun a q1 q2 => zUp_ne _ (by omega)) (zUp_ne _ (by decide))) (nc.fr (zUp_ne _ (by decide)) (zUp_ne _ (by decide)) (zUp_ne _ (by decide))) (by rw [zUp_ne _ (by decide)]; exact h0) (by rw [zUp_ne _ (by decide)]; exact h1) (by rw [zUp_ne _ (by decide)]; exact hT) (fun k hk => by rw [zUp_ne _ (by decide), zUp_ne _ (by decide)]; exact ⟨(hh k hk).1, (hh k hk).2.1, by have := (hh k hk).2.2; omega⟩) sl1 (by omega) (by omega)
        exact ⟨μ', ξ', f1, f2, fun a q1 q2 => by rw [f3 a q1 q2, zUp_ne _ q1], fun a q1 q2 => by rw [f4 a q1 q2, zUp_ne _ q1], f5, f6⟩
      · have nb := nI_m1 (b := b) (by omega)
        have gb : gIn (nI b) 6 = true := gI b1 (by decide)
        rw [if_neg nb, ckT gb, ckT gb, nI_clamp (n := b) (by omega), zLt_eq, zLt_eq, zLt_eq, if_neg nb, ckT gb, ckT gb, zLt_eq, zLt_eq, e1, zUp_ne (a := 265) (b := 266) _ (by decide), zUp_ne (a := 276) (b := 277) _ (by decide)]
        obtain ⟨p1, p2, p3⟩ := hh b b1
        have ei : (ξ 277 b + 1).toInt = (ξ 277 b).toInt + 1 := iA rfl (show (1 : Int32).toInt = 1 from rfl) (by omega) (by omega)
        obtain ⟨μ', ξ', f1, f2, f3, f4, f5, f6⟩ := ih (n + 1) (gUp (gUp μ 265 n (nI b)) 266 b (μ 266 b + 1)) (gUp (gUp ξ 276 n (nI b)) 277 b (ξ 277 b + 1)) (nt.fr (fun a q1 q2 => by rw [zUp_ne _ (by omega), zUp_ne _ (by omega)]) (by rw [zUp_ne _ (by decide), zUp_ne _ (by decide)])) (nc.fr (by rw [zUp_ne _ (by decide), zUp_ne _ (by decide)]) (by rw [zUp_ne _ (by decide), zUp_ne _ (by decide)]) (by rw [zUp_ne _ (by decide), zUp_ne _ (by decide)])) (by rw [zUp_ne _ (by decide), zUp_ne _ (by decide)]; exact h0) (by rw [zUp_ne _ (by decide), zUp_ne _ (by decide)]; exact h1) (by rw [zUp_ne _ (by decide), zUp_ne _ (by decide)]; exact hT) (fun k hk => by
          by_cases ek : k = b
          · subst ek; rw [zUp_same, zUp_same, p1]; exact ⟨rfl, by omega, by omega⟩
          · rw [zUp_slot _ ek, zUp_slot _ ek, zUp_ne _ (by decide), zUp_ne _ (by decide)]; exact ⟨(hh k hk).1, (hh k hk).2.1, by have := (hh k hk).2.2; omega⟩) (fun i hi => by rw [zUp_ne (a := 266) (b := 265) _ (by decide), zUp_ne (a := 277) (b := 276) _ (by decide)]; exact sl1 i hi) (by omega) (by omega)
        exact ⟨μ', ξ', f1, f2, fun a q1 q2 => by rw [f3 a q1 q2, zUp_ne _ q2, zUp_ne _ q1], fun a q1 q2 => by rw [f4 a q1 q2, zUp_ne _ q2, zUp_ne _ q1], f5, f6⟩
theorem cLay0 {g : Nat} {T : Int32} : ∀ (m n : Nat) (μ : gM), n ≤ 6 → 6 < n + m → ∃ μ', fX8_lay_l30 m (nI g) T (nI n) μ = fX8_lay_l54 100000 (nI g) T (nI 0) μ' ∧ (∀ a, a ≠ 266 → μ' a = μ a) ∧ ∀ k, k < 6 → (k < n → μ' 266 k = μ 266 k) ∧ (n ≤ k → μ' 266 k = 0) := by
  intro m
  induction m with
  | zero => intro n μ h1 h2; omega
  | succ m ih =>
    intro n μ h1 h2
    rw [fX8_lay_l30]
    by_cases c : 6 ≤ n
    · rw [if_pos ((le6 (by omega)).mpr c)]
      exact ⟨μ, rfl, fun _ _ => rfl, fun k hk => ⟨fun _ => rfl, fun w => by omega⟩⟩
    · rw [if_neg (fun w => c ((le6 (by omega)).mp w)), ckT (gI (N := 6) (by omega) (by decide)), nI_clamp (by omega), zLt_eq, zLt_eq, show nI n + (1 : Int32) = nI (n + 1) from nI_1 n]
      obtain ⟨μ', e, f1, f2⟩ := ih (n + 1) (gUp μ 266 n 0) (by omega) (by omega)
      refine ⟨μ', e, fun a ha => by rw [f1 a ha, zUp_ne _ ha], fun k hk => ⟨fun w => ?_, fun w => ?_⟩⟩
      · rw [(f2 k hk).1 (by omega), zUp_slot _ (by omega)]
      · by_cases ek : k = n
        · subst ek; rw [(f2 k hk).1 (by omega), zUp_same]
        · exact (f2 k hk).2 (by omega)
theorem mLay0 {g : Nat} {T : Int32} : ∀ (m n : Nat) (μ : gM), n ≤ 6 → 6 < n + m → ∃ μ', fX12_laysSlots_l16 m (nI g) T (nI n) μ = fX12_laysSlots_l40 100000 (nI g) T (nI 0) μ' ∧ (∀ a, a ≠ 277 → μ' a = μ a) ∧ ∀ k, k < 6 → (k < n → μ' 277 k = μ 277 k) ∧ (n ≤ k → μ' 277 k = 0) := by
  intro m
  induction m with
  | zero => intro n μ h1 h2; omega
  | succ m ih =>
    intro n μ h1 h2
    rw [fX12_laysSlots_l16]
    by_cases c : 6 ≤ n
    · rw [if_pos ((le6 (by omega)).mpr c)]
      exact ⟨μ, rfl, fun _ _ => rfl, fun k hk => ⟨fun _ => rfl, fun w => by omega⟩⟩
    · rw [if_neg (fun w => c ((le6 (by omega)).mp w)), ckT (gI (N := 6) (by omega) (by decide)), nI_clamp (by omega), zLt_eq, zLt_eq, show nI n + (1 : Int32) = nI (n + 1) from nI_1 n]
      obtain ⟨μ', e, f1, f2⟩ := ih (n + 1) (gUp μ 277 n 0) (by omega) (by omega)
      refine ⟨μ', e, fun a ha => by rw [f1 a ha, zUp_ne _ ha], fun k hk => ⟨fun w => ?_, fun w => ?_⟩⟩
      · rw [(f2 k hk).1 (by omega), zUp_slot _ (by omega)]
      · by_cases ek : k = n
        · subst ek; rw [(f2 k hk).1 (by omega), zUp_same]
        · exact (f2 k hk).2 (by omega)
/-- slots are laid alike -/
theorem pLaySl {g k cn cl cg ct : Nat} {μ ξ : gM} (nt : NET μ ξ) (nc : NC μ ξ cn cl cg ct) (hp : μ 34 3 = ξ 272 3) (hu : μ 34 1 = ξ 272 1) (gr : GRP 34 g no l0 μ ξ) (hg : g < cg) (hk : k < cn) : ∃ sl μ' ξ', 1 ≤ sl ∧ sl ≤ 8 ∧ μ 10 g = nI sl ∧ ξ 269 (43 + g) = nI sl ∧ fX8_lay (nI g) (nI k) μ = some μ' ∧ fX12_laysSlots (nI g) (nI k) ξ = some ξ' ∧ CFs μ μ' ∧ MFs ξ ξ' ∧ SLT sl μ' ξ' ∧ ∀ k, k < 6 → μ' 266 k = ξ' 277 k := by
  have b5 := nc.1.2.2.1
  obtain ⟨-, -, -, r10, gb⟩ := nt.gr nc hg
  obtain ⟨sl, e1, e2, e3⟩ : ∃ sl : Nat, 1 ≤ sl ∧ sl ≤ 8 ∧ ξ 269 (43 + g) = nI sl := ⟨(ξ 269 (43 + g)).toInt.toNat, by have := gb.2.2.2; omega, by have := gb.2.2.2; omega, nI_of' (by have := gb.2.2.2; omega)⟩
  have hH : ∀ j, j < 32 → bt (ξ 269 (48 + g) &&& ξ 272 1) j = true → mem (ξ 269) g j := fun j hj w => by
    rw [bt_and, Bool.and_eq_true] at w
    by_cases c : j < 6
    · exact ⟨by omega, c, w.1⟩
    · rw [nt.m63 (by omega) (by omega)] at w
      exact absurd w.1 (by decide)
  obtain ⟨x, y, p1, p2, p3⟩ := pPart (s := 34) (g := g) (H := ξ 269 (48 + g) &&& ξ 272 1) nt nc hp hk hH
  unfold fX8_lay fX12_laysSlots
  rw [ckT (gI (by omega) (by decide)), p1, zBd_some, zLt_eq, nI_clamp (by omega), nt.m11 (by omega), hu, mAlive nt gr (by omega), zBd_some, p2, zBd_some, zLt_eq, ← p3]
  have hT : ∀ j, j < 6 → bt ((ξ 269 (48 + g) &&& ξ 272 1) &&& x) j = true → mem (ξ 269) g j := fun j hj w => by
    rw [bt_and, Bool.and_eq_true] at w
    exact hH j (by omega) w.1
  generalize (ξ 269 (48 + g) &&& ξ 272 1) &&& x = T at hT ⊢
  obtain ⟨μa, a1, a2, a3⟩ := cLay0 (g := g) (T := T) 100000 0 μ (by omega) (by omega)
  obtain ⟨ξa, c1, c2, c3⟩ := mLay0 (g := g) (T := T) 100000 0 ξ (by omega) (by omega)
  have a1' : fX8_lay_l30 100000 (nI g) T (0 : Int32) μ = fX8_lay_l54 100000 (nI g) T (nI 0) μa := a1
  have c1' : fX12_laysSlots_l16 100000 (nI g) T (0 : Int32) ξ = fX12_laysSlots_l40 100000 (nI g) T (nI 0) ξa := c1
  rw [a1', c1']
  obtain ⟨μ', ξ', f1, f2, f3, f4, f5, f6⟩ := pLay_l (g := g) (T := T) (by omega) e2 100000 0 μa ξa (nt.fr (fun a q1 q2 => a2 a (by omega)) (c2 269 (by decide))) (nc.fr (a2 4 (by decide)) (a2 5 (by decide)) (c2 269 (by decide))) (by rw [a2 10 (by decide), r10]; exact e3) (by rw [c2 269 (by decide)]; exact e3) (by rw [c2 269 (by decide)]; exact hT) (fun j hj => by rw [(a3 j hj).2 (by omega), (c3 j hj).2 (by omega)]; exact ⟨rfl, by decide, by decide⟩) (fun i hi => absurd hi (by omega)) (by omega) (by omega)
  exact ⟨sl, μ', ξ', e1, e2, r10.trans e3, e3, f1, f2, fun a q1 q2 => by rw [f3 a q1 q2, a2 a q2], fun a q1 q2 => by rw [f4 a q1 q2, c2 a q2], f5, f6⟩
