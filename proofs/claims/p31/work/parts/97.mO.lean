/-! a letter of farewell -/
theorem mnmx (x y : Int32) : zMn x (zMx y 1) = if wv1 y ≤ x then wv1 y else x := by
  have e : zMx y 1 = wv1 y := by
    unfold zMx wv1
    by_cases c : y < 1
    · rw [if_pos c, if_neg (fun w => by have := Int32.lt_iff_toInt_lt.mp c; have := Int32.le_iff_toInt_le.mp w; omega)]
    · rw [if_neg c, if_pos (Int32.le_iff_toInt_le.mpr (by have : ¬ y.toInt < (1 : Int32).toInt := fun w => c (Int32.lt_iff_toInt_lt.mpr w); omega))]
  rw [e]
  unfold zMn
  generalize wv1 y = z
  by_cases c : z < x
  · rw [if_pos c, if_pos (Int32.le_iff_toInt_le.mpr (by have := Int32.lt_iff_toInt_lt.mp c; omega))]
  · rw [if_neg c]
    by_cases c2 : z ≤ x
    · rw [if_pos c2]
      exact Int32.toInt_inj.mp (by have := Int32.le_iff_toInt_le.mp c2; have : ¬ z.toInt < x.toInt := fun w => c (Int32.lt_iff_toInt_lt.mpr w); omega)
    · rw [if_neg c2]
theorem GRP.hbX {s g k : Nat} {X : Nat → Prop} {lo : Nat → Int} {μ ξ : gM} (h : GRP s g X lo μ ξ) (hx : ¬ X k) (hg : g < 5) (hk : k < 6) : (ξ 272 (40 + (6 * g + k)) = 0 ∧ bt (μ (s + 5) g) k = false ∧ (bt (ξ 269 (48 + g)) k && bt (ξ 272 1) k) = false) ∨ (ξ 272 (40 + (6 * g + k)) = 1 ∧ bt (μ (s + 5) g) k = false ∧ mem (ξ 269) g k ∧ bt (ξ 272 1) k = true) ∨ (ξ 272 (40 + (6 * g + k)) = 2 ∧ bt (μ (s + 5) g) k = true ∧ mem (ξ 269) g k ∧ bt (ξ 272 1) k = true) := by
  by_cases m : mem (ξ 269) g k
  · obtain ⟨-, -, -, -, ⟨u, b, z, -⟩ | ⟨u, ⟨b, z⟩ | ⟨b, z⟩⟩⟩ := h.1 k m hx
    · exact Or.inl ⟨z, b, by rw [u, Bool.and_false]⟩
    · exact Or.inr (Or.inl ⟨z, b, m, u⟩)
    · exact Or.inr (Or.inr ⟨z, b, m, u⟩)
  · have : bt (ξ 269 (48 + g)) k = false := by
      cases e : bt (ξ 269 (48 + g)) k with
      | false => rfl
      | true => exact absurd ⟨hg, hk, e⟩ m
    obtain ⟨z, b⟩ := h.2.1 k hk m
    exact Or.inl ⟨z, b, by rw [this, Bool.false_and]⟩
theorem cFare_t {s g : Nat} {R : Int32} {μ : gM} : ∀ (m j : Nat), j ≤ 6 → 6 < j + m → (∀ i, j ≤ i → i < 6 → bt R i = false) → fX10_sayFarewell_l55 s m (nI g) R (nI j) μ = some μ := by
  intro m
  induction m with
  | zero => intro j h1 h2; exact absurd h2 (by omega)
  | succ m ih =>
    intro j h1 h2 hA
    rw [fX10_sayFarewell_l55]
    by_cases c : j = 6
    · rw [if_pos ((le6 (by omega)).mpr (by omega))]
    · rw [if_neg (fun w => c (by have := (le6 (by omega)).mp w; omega)), zLt_eq, if_neg (fun w => by have := (bit1_iff (by omega)).mp w; rw [hA j (by omega) (by omega)] at this; exact absurd this (by decide)), zLt_eq, show nI j + (1 : Int32) = nI (j + 1) from nI_1 j]
      exact ih (j + 1) (by omega) (by omega) (fun i h1 h2 => hA i (by omega) h2)
def only (k : Nat) : Nat → Prop := fun j => j = k
theorem pFare_l {s g k cn cl cg ct : Nat} {F : Prop} {c R : Int32} (hs : 34 ≤ s) (hg : g < 5) (hk : k < 6) : ∀ (m j : Nat) (μ ξ : gM), CTX s F c μ ξ → NC μ ξ cn cl cg ct → GRP s g (only k) l0 μ ξ → ξ 272 (40 + (6 * g + k)) = 0 → bt (ξ 272 1) k = false → (∀ i, i < 6 → bt R i = (((bt (ξ 269 (48 + g)) i && bt (ξ 272 1) i) && (bt (ξ 272 3) k == bt (ξ 272 3) i)) && !bt (μ (s + 5) g) i)) → j ≤ cn → 6 < j + m → ∃ μ' ξ', fX10_sayFarewell_l55 s m (nI g) R (nI j) μ = some μ' ∧ fX12_farewell_l12 m (nI g) (nI k) (nI j) ξ = some ξ' ∧ CTX s F c μ' ξ' ∧ GRP s g (only k) l0 μ' ξ' ∧ DG s g μ μ' ∧ EG g ξ ξ' ∧ ξ' 272 (40 + (6 * g + k)) = 0 ∧ μ' (s + 5) = μ (s + 5) ∧ ξ' 272 (70 + (6 * g + k)) = ξ 272 (70 + (6 * g + k)) ∧ ξ' 272 (100 + (6 * g + k)) = ξ 272 (100 + (6 * g + k)) := by
  intro m
  induction m with
  | zero => intro j μ ξ _ nc _ _ _ _ hj h2; exact absurd h2 (by have := nc.1.1; omega)
  | succ m ih =>
    intro j μ ξ h nc gr hw dn hR hj h2
    have b6 := nc.1.1
    rw [fX12_farewell_l12]
    unfold fX12_gates
    rw [zBd_some, nc.2.2.1]
    by_cases cj : j = cn
    · subst cj
      rw [if_pos ((nIle (by omega) (by omega)).mpr (Nat.le_refl _))]
      refine ⟨μ, ξ, cFare_t (m + 1) j (by omega) (by omega) (fun i h1 h2 => ?_), rfl, h, gr, DG.rf _ _ _, EG.rf _ _, hw, rfl, rfl, rfl⟩
      have := h.tail (A := ξ 269 (48 + g) &&& ξ 272 1) nc hg (fun j _ => bt_and _ _ _) i h1 h2
      rw [bt_and] at this
      rw [hR i h2, this, Bool.false_and, Bool.false_and]
    · have j6 : j < 6 := by omega
      have i40 : (40 : Int32) + nI (6 * g + j) = nI (40 + (6 * g + j)) := nI_add 40 _
      have g40 : gIn (nI (40 + (6 * g + j))) 490 = true := gI (by omega) (by decide)
      have c40 : (nI (40 + (6 * g + j))).toNatClampNeg = 40 + (6 * g + j) := nI_clamp (by omega)
      have gm : gIn (nI (6 * g + j)) 30 = true := gI (by omega) (by decide)
      have cm : (nI (6 * g + j)).toNatClampNeg = 6 * g + j := nI_clamp (by omega)
      have i70 : (70 : Int32) + nI (6 * g + j) = nI (70 + (6 * g + j)) := nI_add 70 _
      have g70 : gIn (nI (70 + (6 * g + j))) 490 = true := gI (by omega) (by decide)
      have c70 : (nI (70 + (6 * g + j))).toNatClampNeg = 70 + (6 * g + j) := nI_clamp (by omega)
      rw [if_neg (fun w => cj (by have := (nIle (by omega) (by omega)).mp w; omega)), mOf _ hg j6, zBd_some, i40, fX10_sayFarewell_l55, if_neg (fun w => by have := (le6 (by omega)).mp w; omega), zLt_eq, o6f hg j6]
      unfold zCk
      rw [if_pos g40, c40, if_pos gm, if_pos gm, if_pos gm, cm]
      have skip : bt R j = false → ξ 272 (40 + (6 * g + j)) ≠ 1 ∨ ((bt (ξ 272 3) k == bt (ξ 272 3) j) = false) → ∃ μ' ξ', fX10_sayFarewell_l55 s m (nI g) R (nI (j + 1)) μ = some μ' ∧ fX12_farewell_l12 m (nI g) (nI k) (nI (j + 1)) ξ = some ξ' ∧ CTX s F c μ' ξ' ∧ GRP s g (only k) l0 μ' ξ' ∧ DG s g μ μ' ∧ EG g ξ ξ' ∧ ξ' 272 (40 + (6 * g + k)) = 0 ∧ μ' (s + 5) = μ (s + 5) ∧ ξ' 272 (70 + (6 * g + k)) = ξ 272 (70 + (6 * g + k)) ∧ ξ' 272 (100 + (6 * g + k)) = ξ 272 (100 + (6 * g + k)) := fun _ _ => ih (j + 1) μ ξ h nc gr hw dn hR (by omega) (by omega)
      by_cases ejk : j = k
      · have r0 : bt R j = false := by rw [hR j j6, ejk, dn, Bool.and_false, Bool.false_and, Bool.false_and]
        have w0 : ¬ ξ 272 (40 + (6 * g + j)) = 1 := by rw [ejk, hw]; decide
        rw [if_neg (fun w => by have := (bit1_iff (by omega)).mp w; rw [r0] at this; exact absurd this (by decide)), if_neg w0, zLt_eq, zLt_eq, show nI j + (1 : Int32) = nI (j + 1) from nI_1 j]
        exact skip r0 (Or.inl w0)
      · rcases gr.hbX ejk hg j6 with ⟨z, b, a⟩ | ⟨z, b, mj, u⟩ | ⟨z, b, mj, u⟩
        · have r0 : bt R j = false := by rw [hR j j6, a, Bool.false_and, Bool.false_and]
          have w0 : ¬ ξ 272 (40 + (6 * g + j)) = 1 := by rw [z]; decide
          rw [if_neg (fun w => by have := (bit1_iff (by omega)).mp w; rw [r0] at this; exact absurd this (by decide)), if_neg w0, zLt_eq, zLt_eq, show nI j + (1 : Int32) = nI (j + 1) from nI_1 j]
          exact skip r0 (Or.inl w0)
        · rw [if_pos z, mTog hk j6, zBd_some]
          have rj : bt R j = (bt (ξ 272 3) k == bt (ξ 272 3) j) := by rw [hR j j6, mj.2.2, u, b]; simp
          by_cases ct' : (bt (ξ 272 3) k == bt (ξ 272 3) j) = true
          · rw [if_pos ((bit1_iff (by omega)).mpr (by rw [rj]; exact ct')), if_pos ct', if_neg one_n0, i70, if_pos g70, c70, mSkew hg j6 nc.2.2.2.2.2 nc.1.2.2.2, zBd_some, mGreater, zBd_some]
            obtain ⟨-, w2, w3, w4⟩ := h.2.2.1 g j mj
            obtain ⟨q1, q2, q3, -, -⟩ := gr.1 j mj ejk
            rw [← w3, ← w4, q1, mnmx]
            have el : fX12_lesser (ξ 272 (70 + (6 * g + j))) (wv1 (μ (s + 11) (6 * g + j))) ξ = some (if wv1 (μ (s + 11) (6 * g + j)) ≤ ξ 272 (70 + (6 * g + j)) then wv1 (μ (s + 11) (6 * g + j)) else ξ 272 (70 + (6 * g + j))) := by
              unfold fX12_lesser
              split <;> rfl
            rw [el, zBd_some, if_pos g70, zLt_eq, zLt_eq, zLt_eq, zLt_eq, show nI j + (1 : Int32) = nI (j + 1) from nI_1 j]
            have w1b : 1 ≤ (wv1 (μ (s + 11) (6 * g + j))).toInt := by
              unfold wv1
              split
              · rename_i w; exact Int32.le_iff_toInt_le.mp w
              · decide
            have vb : 0 ≤ (if wv1 (μ (s + 11) (6 * g + j)) ≤ ξ 272 (70 + (6 * g + j)) then wv1 (μ (s + 11) (6 * g + j)) else ξ 272 (70 + (6 * g + j))).toInt ∧ (if wv1 (μ (s + 11) (6 * g + j)) ≤ ξ 272 (70 + (6 * g + j)) then wv1 (μ (s + 11) (6 * g + j)) else ξ 272 (70 + (6 * g + j))).toInt ≤ 200 := by
              split
              · rename_i w; have := Int32.le_iff_toInt_le.mp w; omega
              · exact q3
            generalize (if wv1 (μ (s + 11) (6 * g + j)) ≤ ξ 272 (70 + (6 * g + j)) then wv1 (μ (s + 11) (6 * g + j)) else ξ 272 (70 + (6 * g + j))) = v at vb ⊢
            have ps := pClk (lo' := l0) (v := v) (μ' := gUp μ (s + 12) (6 * g + j) v) (ξ' := gUp ξ 272 (70 + (6 * g + j)) v) hs h gr mj ejk u vb (fun a h1 _ => zUp_ne _ h1) (fun i _ => by rw [zUp_ne _ (by omega)]) (fun j hj => zUp_slot _ hj) (zUp_same _ _ _ _) (fun a h1 _ => zUp_ne _ h1) (fun i _ h2 => zUp_slot _ h2) (zUp_same _ _ _ _) (fun f => by rw [zUp_ne _ (by omega), zUp_slot _ (by omega)]; exact (h.2.2.2.2.2 f).2.1) (fun _ _ => Int.le_refl _) vb.1
            obtain ⟨μ', ξ', x1, x2, x3, x4, x5, x6, x7, x8, x9, x10⟩ := ih (j + 1) _ _ ps.1 (nc.mv hs ps.2.2.1 ps.2.2.2) ps.2.1 (by rw [zUp_slot _ (by omega)]; exact hw) (by rw [zUp_slot _ (by omega)]; exact dn) (fun i hi => by rw [hR i hi, zUp_ne _ (show (269 : Nat) ≠ 272 by decide), zUp_slot _ (show 1 ≠ 70 + (6 * g + j) by omega), zUp_slot _ (show 3 ≠ 70 + (6 * g + j) by omega), zUp_ne _ (show s + 5 ≠ s + 12 by omega)]) (by omega) (by omega)
            exact ⟨μ', ξ', x1, x2, x3, x4, ps.2.2.1.tr x5, ps.2.2.2.tr x6, x7, by rw [x8, zUp_ne _ (by omega)], by rw [x9, zUp_slot _ (by omega)], by rw [x10, zUp_slot _ (by omega)]⟩
          · have r0 : bt R j = false := by rw [rj]; exact Bool.eq_false_iff.mpr ct'
            rw [if_neg (fun w => by have := (bit1_iff (by omega)).mp w; rw [r0] at this; exact absurd this (by decide)), if_neg ct', if_pos rfl, zLt_eq, zLt_eq, show nI j + (1 : Int32) = nI (j + 1) from nI_1 j]
            exact skip r0 (Or.inr (Bool.eq_false_iff.mpr ct'))
        · have r0 : bt R j = false := by rw [hR j j6, b, Bool.not_true, Bool.and_false]
          have w0 : ¬ ξ 272 (40 + (6 * g + j)) = 1 := by rw [z]; decide
          rw [if_neg (fun w => by have := (bit1_iff (by omega)).mp w; rw [r0] at this; exact absurd this (by decide)), if_neg w0, zLt_eq, zLt_eq, show nI j + (1 : Int32) = nI (j + 1) from nI_1 j]
          exact skip r0 (Or.inl w0)
/-- one letter more, in both -/
theorem pSent {s g : Nat} {F : Prop} {c : Int32} {X : Nat → Prop} {lo : Nat → Int} {μ ξ : gM} (hs : 34 ≤ s) (hg : g < 5) (h : CTX s F c μ ξ) (gr : GRP s g X lo μ ξ) : CTX s F c (gUp μ s 6 (μ s 6 + 1)) (gUp ξ 272 5 (ξ 272 5 + 1)) ∧ GRP s g X lo (gUp μ s 6 (μ s 6 + 1)) (gUp ξ 272 5 (ξ 272 5 + 1)) ∧ DG s g μ (gUp μ s 6 (μ s 6 + 1)) ∧ EG g ξ (gUp ξ 272 5 (ξ 272 5 + 1)) := by
  have wm : ∀ a, a ≠ s → gUp μ s 6 (μ s 6 + 1) a = μ a := fun a ha => zUp_ne _ ha
  have wx : ∀ a, a ≠ 272 → gUp ξ 272 5 (ξ 272 5 + 1) a = ξ a := fun a ha => zUp_ne _ ha
  have wi : ∀ i, i ≠ 5 → gUp ξ 272 5 (ξ 272 5 + 1) 272 i = ξ 272 i := fun i hi => zUp_slot _ hi
  have ws : ∀ i, i ≠ 6 → gUp μ s 6 (μ s 6 + 1) s i = μ s i := fun i hi => zUp_slot _ hi
  have dg : DG s g μ (gUp μ s 6 (μ s 6 + 1)) := ⟨fun a h0 _ _ _ _ _ _ _ => wm a h0, fun i _ h6 _ => ws i h6, fun j _ => ⟨by rw [wm _ (by omega)], by rw [wm _ (by omega)]⟩, fun j _ => ⟨by rw [wm _ (by omega)], by rw [wm _ (by omega)]⟩, fun i _ => by rw [wm _ (by omega)]⟩
  have eg : EG g ξ (gUp ξ 272 5 (ξ 272 5 + 1)) := ⟨fun a _ h1 _ => wx a h1, ⟨fun i _ => by rw [wx 267 (by decide)], fun _ => wi 9 (by decide)⟩, fun i _ h1 _ _ _ _ _ _ _ => wi i h1⟩
  obtain ⟨-, ⟨-, -, -, -, -, n5⟩, -, a1, a2, a3⟩ := id h
  refine ⟨h.mv hs hg dg eg (by rw [ws 5 (by decide), wi 9 (by decide)]; exact n5) ⟨by rw [wm _ (by omega)]; exact a1, by rw [wi 7 (by decide)]; exact a2, fun f => ?_⟩, gr.cg hg (fun a ha => wm a (by omega)) (wx 269 (by decide)) (fun i hi => wi i (by omega)), dg, eg⟩
  obtain ⟨f1, f2, f3, f4⟩ := a3 f
  exact ⟨f1.cg (wm _ (by omega)) (wm _ (by omega)) (wi 7 (by decide)) (fun i hi => wi i (by omega)), by rw [zUp_same, zUp_same, f2], by rw [ws 7 (by decide), wi 6 (by decide)]; exact f3, by rw [wm _ (by omega), wx 267 (by decide)]; exact f4⟩
theorem pFare {s g k : Nat} {F : Prop} {c : Int32} {μ ξ : gM} (hs : 34 ≤ s) (hg : g < 5) (hk : k < 6) (h : CTX s F c μ ξ) (gr : GRP s g (only k) l0 μ ξ) (hw : ξ 272 (40 + (6 * g + k)) = 0) (dn : bt (ξ 272 1) k = false) : ∃ μ' ξ', fX10_sayFarewell s (nI g) (nI k) μ = some μ' ∧ fX12_farewell (nI g) (nI k) ξ = some ξ' ∧ CTX s F c μ' ξ' ∧ GRP s g (only k) l0 μ' ξ' ∧ DG s g μ μ' ∧ EG g ξ ξ' ∧ ξ' 272 (40 + (6 * g + k)) = 0 ∧ μ' (s + 5) = μ (s + 5) ∧ ξ' 272 (70 + (6 * g + k)) = ξ 272 (70 + (6 * g + k)) ∧ ξ' 272 (100 + (6 * g + k)) = ξ 272 (100 + (6 * g + k)) := by
  obtain ⟨cn, cl, cg, ct, nc⟩ := h.1.nc
  obtain ⟨c1, g1, d1, e1⟩ := pSent hs hg h gr
  have gg : gIn (nI g) 5 = true := gI hg (by decide)
  have cgg : (nI g).toNatClampNeg = g := nI_clamp (by omega)
  unfold fX10_sayFarewell fX12_farewell
  rw [zLt_eq, zLt_eq, cBes hk, zBd_some]
  unfold zCk
  rw [if_pos gg, if_pos gg, zLt_eq, cgg, z32]
  have w5 : gUp μ s 6 (μ s 6 + 1) (s + 5) = μ (s + 5) := zUp_ne _ (by omega)
  have hw1 : gUp ξ 272 5 (ξ 272 5 + 1) 272 (40 + (6 * g + k)) = 0 := by rw [zUp_slot _ (by omega)]; exact hw
  have dn1 : bt (gUp ξ 272 5 (ξ 272 5 + 1) 272 1) k = false := by rw [zUp_slot _ (by decide)]; exact dn
  have h70 : gUp ξ 272 5 (ξ 272 5 + 1) 272 (70 + (6 * g + k)) = ξ 272 (70 + (6 * g + k)) := zUp_slot _ (by omega)
  have h100 : gUp ξ 272 5 (ξ 272 5 + 1) 272 (100 + (6 * g + k)) = ξ 272 (100 + (6 * g + k)) := zUp_slot _ (by omega)
  have nc1 := nc.mv hs d1 e1
  generalize gUp μ s 6 (μ s 6 + 1) = μ1 at c1 g1 d1 w5 nc1 ⊢
  generalize gUp ξ 272 5 (ξ 272 5 + 1) = ξ1 at c1 g1 e1 hw1 dn1 nc1 h70 h100 ⊢
  have hR : ∀ i, i < 6 → bt (((μ1 11 g &&& μ1 s 1) &&& (if bt (μ1 s 3) k = true then μ1 s 3 else μ1 s 3 ^^^ (-1 : Int32))) &&& (μ1 (s + 5) g ^^^ (-1 : Int32))) i = (((bt (ξ1 269 (48 + g)) i && bt (ξ1 272 1) i) && (bt (ξ1 272 3) k == bt (ξ1 272 3) i)) && !bt (μ1 (s + 5) g) i) := fun i hi => by
    rw [bt_and, bt_and, bt_and, bt_not _ (by omega), c1.1.m11 hg, c1.2.1.2.1, c1.2.1.2.2.2.1]
    have : bt (if bt (ξ1 272 3) k = true then ξ1 272 3 else ξ1 272 3 ^^^ (-1 : Int32)) i = (bt (ξ1 272 3) k == bt (ξ1 272 3) i) := by
      cases e : bt (ξ1 272 3) k with
      | true => rw [if_pos rfl]; cases bt (ξ1 272 3) i <;> rfl
      | false => rw [if_neg (by decide), bt_not _ (by omega)]; cases bt (ξ1 272 3) i <;> rfl
    rw [this]
  obtain ⟨μ', ξ', x1, x2, x3, x4, x5, x6, x7, x8, x9, x10⟩ := pFare_l hs hg hk 100000 0 μ1 ξ1 c1 nc1 g1 hw1 dn1 hR (Nat.zero_le _) (by decide)
  exact ⟨μ', ξ', x1, x2, x3, x4, d1.tr x5, e1.tr x6, x7, x8.trans w5, x9.trans h70, x10.trans h100⟩
/-! a gate goes down -/
theorem GRP.dn {s g k : Nat} {lo : Nat → Int} {μ ξ μ' ξ' : gM} (h : GRP s g (only k) lo μ ξ) (hk : k < 6) (e9 : ξ' 269 = ξ 269) (e1 : ξ' 272 1 = ξ 272 1) (dn : bt (ξ 272 1) k = false) (hb : ∀ j, j < 32 → j ≠ k → bt (μ' (s + 5) g) j = bt (μ (s + 5) g) j) (hk0 : bt (μ' (s + 5) g) k = false) (hc : ∀ j, j < 6 → j ≠ k → μ' (s + 12) (6 * g + j) = μ (s + 12) (6 * g + j) ∧ μ' (s + 13) (6 * g + j) = μ (s + 13) (6 * g + j)) (hr : ∀ j, j < 6 → j ≠ k → ξ' 272 (40 + (6 * g + j)) = ξ 272 (40 + (6 * g + j)) ∧ ξ' 272 (70 + (6 * g + j)) = ξ 272 (70 + (6 * g + j)) ∧ ξ' 272 (100 + (6 * g + j)) = ξ 272 (100 + (6 * g + j))) (k12 : μ' (s + 12) (6 * g + k) = 0) (k13 : μ' (s + 13) (6 * g + k) = -1) (r40 : ξ' 272 (40 + (6 * g + k)) = 0) (r70 : ξ' 272 (70 + (6 * g + k)) = 0) (r100 : ξ' 272 (100 + (6 * g + k)) = 0) (c8 : μ' (s + 8) g = ξ' 272 (140 + g)) : GRP s g no lo μ' ξ' := by
  obtain ⟨a1, a2, a3, -⟩ := h
  refine ⟨fun j mj _ => ?_, fun j hj mj => ?_, fun j h6 h32 => ?_, c8⟩
  · rw [e9] at mj
    have j6 := mj.2.1
    by_cases ej : j = k
    · subst ej
      refine ⟨by rw [k12, r70], by rw [k13, r100]; rfl, by rw [r70]; exact ⟨by decide, by decide⟩, fun w => ?_, Or.inl ⟨by rw [e1]; exact dn, hk0, r40, r70, r100⟩⟩
      rw [e1, dn] at w
      exact absurd w (by decide)
    · have := a1 j mj ej
      unfold ST at *
      obtain ⟨r1, r2, r3⟩ := hr j j6 ej
      obtain ⟨d1, d2⟩ := hc j j6 ej
      rw [r1, r2, r3, d1, d2, e1, hb j (by omega) ej]
      exact this
  · rw [e9] at mj
    by_cases ej : j = k
    · subst ej
      exact ⟨r40, hk0⟩
    · rw [(hr j hj ej).1, hb j (by omega) ej]
      exact a2 j hj mj
  · rw [hb j h32 (by omega)]; exact a3 j h6 h32
def tri (g k : Nat) (ξ : gM) : gM := gUp (gUp (gUp ξ 272 (40 + (6 * g + k)) 0) 272 (70 + (6 * g + k)) 0) 272 (100 + (6 * g + k)) 0
theorem tri_x {g k : Nat} {ξ : gM} : (∀ a, a ≠ 272 → tri g k ξ a = ξ a) ∧ (∀ i, i ≠ 40 + (6 * g + k) → i ≠ 70 + (6 * g + k) → i ≠ 100 + (6 * g + k) → tri g k ξ 272 i = ξ 272 i) ∧ tri g k ξ 272 (40 + (6 * g + k)) = 0 ∧ tri g k ξ 272 (70 + (6 * g + k)) = 0 ∧ tri g k ξ 272 (100 + (6 * g + k)) = 0 := by
  unfold tri
  refine ⟨fun a ha => by rw [zUp_ne _ ha, zUp_ne _ ha, zUp_ne _ ha], fun i h1 h2 h3 => by rw [zUp_slot _ h3, zUp_slot _ h2, zUp_slot _ h1], ?_, ?_, ?_⟩
  · rw [zUp_slot _ (by omega), zUp_slot _ (by omega), zUp_same]
  · rw [zUp_slot _ (by omega), zUp_same]
  · rw [zUp_same]
theorem tri_eg {g k : Nat} {ξ : gM} (hk : k < 6) : EG g ξ (tri g k ξ) := by
  obtain ⟨x1, x2, -⟩ := tri_x (g := g) (k := k) (ξ := ξ)
  exact ⟨fun a _ h1 _ => x1 a h1, ⟨fun i _ => by rw [x1 267 (by decide)], fun _ => x2 9 (by omega) (by omega) (by omega)⟩, fun i h0 h1 h2 h3 h4 h5 h6 h7 h8 => x2 i (by omega) (by omega) (by omega)⟩
/-- the class forgets a member's clock and wish -/
def fgt (s g k : Nat) (μ : gM) : gM := gUp (gUp μ (s + 12) (6 * g + k) 0) (s + 13) (6 * g + k) (-1)
theorem fgt_x {s g k : Nat} {μ : gM} : (∀ a, a ≠ s + 12 → a ≠ s + 13 → fgt s g k μ a = μ a) ∧ (∀ j, j ≠ 6 * g + k → fgt s g k μ (s + 12) j = μ (s + 12) j ∧ fgt s g k μ (s + 13) j = μ (s + 13) j) ∧ fgt s g k μ (s + 12) (6 * g + k) = 0 ∧ fgt s g k μ (s + 13) (6 * g + k) = -1 := by
  unfold fgt
  refine ⟨fun a h1 h2 => by rw [zUp_ne _ h2, zUp_ne _ h1], fun j hj => ⟨by rw [zUp_ne _ (by omega), zUp_slot _ hj], by rw [zUp_slot _ hj, zUp_ne _ (by omega)]⟩, ?_, ?_⟩
  · rw [zUp_ne _ (by omega), zUp_same]
  · rw [zUp_same]
theorem fgt_dg {s g k : Nat} {μ : gM} (hk : k < 6) : DG s g μ (fgt s g k μ) := by
  obtain ⟨x1, x2, -⟩ := fgt_x (s := s) (g := g) (k := k) (μ := μ)
  exact ⟨fun a h0 h1 h2 h3 h4 h5 h6 h7 => x1 a h5 h6, fun i _ _ _ => by rw [x1 s (by omega) (by omega)], fun j _ => ⟨by rw [x1 _ (by omega) (by omega)], by rw [x1 _ (by omega) (by omega)]⟩, fun j hj => x2 j (by omega), fun i _ => by rw [x1 _ (by omega) (by omega)]⟩
theorem cN102 {s g k : Nat} {y2 y3 : Int32} {μ : gM} {K : Int32 → Int32 → Int32 → Int32 → gM → Option (Int32 × gM)} (hg : g < 5) (hk : k < 6) : fX10_lower_n102 s K (nI k) y2 y3 (nI g) μ = K (nI k) y2 y3 (nI (g + 1)) (fgt s g k μ) := by
  have gm : gIn (nI (6 * g + k)) 30 = true := gI (by omega) (by decide)
  have cm : (nI (6 * g + k)).toNatClampNeg = 6 * g + k := nI_clamp (by omega)
  unfold fX10_lower_n102
  rw [o6f hg hk]
  unfold zCk
  rw [if_pos gm, zLt_eq, if_pos gm, cm, zLt_eq, zLt_eq, show nI g + (1 : Int32) = nI (g + 1) from nI_1 g]
  rfl
theorem cDown1 {s g k m cg : Nat} {y2 y3 : Int32} {μ : gM} (hg : g < 5) (hk : k < 6) (hs : 34 ≤ s) (h5 : μ 5 2 = nI cg) (hc : g < cg) (hc5 : cg ≤ 5) : fX10_lower_l22 s (m + 1) (nI k) y2 y3 (nI g) μ = if bt (μ (s + 5) g) k = true then zBd (fX0_add (s + 3) (μ s 0) (nI g) (nI k) 2 (gUp μ (s + 5) g (μ (s + 5) g &&& (((1 : Int32) <<< (nI k &&& 31)) ^^^ (-1 : Int32))))) (fun μ12 => if y2 = 0 then fX10_lower_l22 s m (nI k) y2 (y3 + 1) (nI (g + 1)) (fgt s g k μ12) else zBd (fX10_sayFarewell s (nI g) (nI k) μ12) (fun μ13 => fX10_lower_l22 s m (nI k) y2 (y3 + 1) (nI (g + 1)) (fgt s g k μ13))) else fX10_lower_l22 s m (nI k) y2 y3 (nI (g + 1)) (fgt s g k μ) := by
  have gg : gIn (nI g) 5 = true := gI hg (by decide)
  have cgg : (nI g).toNatClampNeg = g := nI_clamp (by omega)
  rw [fX10_lower_l22, h5, if_neg (fun w => by have := (nIle (by omega) (by omega)).mp w; omega), cHeld hg hk, zBd_some]
  by_cases c : bt (μ (s + 5) g) k = true
  · rw [if_pos c, if_pos c, if_neg one_n0, zLt_eq]
    unfold zCk
    rw [if_pos gg, if_pos gg, cgg, zLt_eq, zUp_ne _ (show s ≠ s + 5 by omega)]
    congr 1
    funext μ12
    rw [cN102 hg hk]
    congr 1
    congr 1
    funext μ13
    rw [cN102 hg hk]
  · rw [if_neg c, if_neg c, if_pos rfl, cN102 hg hk]
theorem mDown1 {g k m cg : Nat} {y2 y3 : Int32} {ξ : gM} (hg : g < 5) (hk : k < 6) (h2 : ξ 269 2 = nI cg) (hc : g < cg) (hc5 : cg ≤ 5) : fX12_goesDown_l19 (m + 1) (nI k) y2 y3 (nI g) ξ = if ξ 272 (40 + (6 * g + k)) = 2 then zBd (fX12_logs (nI g) (nI k) 2 (tri g k ξ)) (fun μ12 => if y2 = 0 then fX12_goesDown_l19 m (nI k) y2 (y3 + 1) (nI (g + 1)) μ12 else zBd (fX12_farewell (nI g) (nI k) μ12) (fun μ14 => fX12_goesDown_l19 m (nI k) y2 (y3 + 1) (nI (g + 1)) μ14)) else fX12_goesDown_l19 m (nI k) y2 y3 (nI (g + 1)) (tri g k ξ) := by
  have i40 : (40 : Int32) + nI (6 * g + k) = nI (40 + (6 * g + k)) := nI_add 40 _
  have i70 : (70 : Int32) + nI (6 * g + k) = nI (70 + (6 * g + k)) := nI_add 70 _
  have i100 : (100 : Int32) + nI (6 * g + k) = nI (100 + (6 * g + k)) := nI_add 100 _
  have g40 : gIn (nI (40 + (6 * g + k))) 490 = true := gI (by omega) (by decide)
  have g70 : gIn (nI (70 + (6 * g + k))) 490 = true := gI (by omega) (by decide)
  have g100 : gIn (nI (100 + (6 * g + k))) 490 = true := gI (by omega) (by decide)
  have c40 : (nI (40 + (6 * g + k))).toNatClampNeg = 40 + (6 * g + k) := nI_clamp (by omega)
  have c70 : (nI (70 + (6 * g + k))).toNatClampNeg = 70 + (6 * g + k) := nI_clamp (by omega)
  have c100 : (nI (100 + (6 * g + k))).toNatClampNeg = 100 + (6 * g + k) := nI_clamp (by omega)
  have k1 : nI g + (1 : Int32) = nI (g + 1) := nI_1 g
  rw [fX12_goesDown_l19]
  unfold fX12_groups
  rw [zBd_some, h2, if_neg (fun w => by have := (nIle (by omega) (by omega)).mp w; omega), mOf _ hg hk, zBd_some, mDoes hg hk, zBd_some, i40, i70, i100]
  unfold zCk
  rw [if_pos g40, c40, zLt_eq, if_pos g70, c70, zLt_eq, if_pos g100, c100, zLt_eq]
  rw [show gUp (gUp (gUp ξ 272 (40 + (6 * g + k)) 0) 272 (70 + (6 * g + k)) 0) 272 (100 + (6 * g + k)) 0 = tri g k ξ from rfl]
  by_cases c : ξ 272 (40 + (6 * g + k)) = 2
  · rw [if_pos c, if_pos c, if_neg one_n0, zLt_eq, k1]
    congr 1
  · rw [if_neg c, if_neg c, if_pos rfl, zLt_eq, k1]
/-- what a member of the gate that goes down was -/
def wasH (s k : Nat) (μ ξ : gM) (g : Nat) : Prop := (bt (μ (s + 5) g) k = true ∧ ξ 272 (40 + (6 * g + k)) = 2) ∨ (bt (μ (s + 5) g) k = false ∧ ¬ ξ 272 (40 + (6 * g + k)) = 2)
theorem pLower_l {s k cn cl cg ct : Nat} {F : Prop} {c y2 : Int32} (hs : 34 ≤ s) (hk : k < 6) (hy : y2 = 0 ∨ y2 = 1) : ∀ (m g : Nat) (y3 : Int32) (μ ξ : gM), CTX s F c μ ξ → NC μ ξ cn cl cg ct → (∀ g', g' < 5 → GRP s g' (oX k g g') l0 μ ξ) → (∀ g', g ≤ g' → g' < 5 → wasH s k μ ξ g') → bt (ξ 272 1) k = false → g ≤ cg → 5 < g + m → ∃ v μ' ξ', fX10_lower_l22 s m (nI k) y2 y3 (nI g) μ = some (v, μ') ∧ fX12_goesDown_l19 m (nI k) y2 y3 (nI g) ξ = some (v, ξ') ∧ CTX s F c μ' ξ' ∧ GRS s μ' ξ' ∧ AF s μ μ' ∧ AR ξ ξ' ∧ ξ' 272 1 = ξ 272 1 := by
  intro m
  induction m with
  | zero => intro g y3 μ ξ _ nc _ _ _ hk h2; exact absurd h2 (by have := nc.1.2.2.1; omega)
  | succ m ih =>
    intro g y3 μ ξ h nc gs wh dn hgc h2
    have b5 := nc.1.2.2.1
    by_cases ck : g = cg
    · subst ck
      rw [fX10_lower_l22, fX12_goesDown_l19, nc.2.1.2.2.1]
      unfold fX12_groups
      rw [zBd_some, nc.2.2.2.2.1, if_pos ((nIle (by omega) (by omega)).mpr (Nat.le_refl _)), if_pos ((nIle (by omega) (by omega)).mpr (Nat.le_refl _))]
      refine ⟨y3, μ, ξ, rfl, rfl, h, fun g' hg' => ⟨fun j mj _ => (gs g' hg').1 j mj (fun w => ?_), (gs g' hg').2⟩, AF.rf _ _, AR.rf _, rfl⟩
      have := (h.1.mlt nc mj).2
      have := w.2
      omega
    · have g5 : g < 5 := by omega
      rw [cDown1 g5 hk hs nc.2.1.2.2.1 (by omega) b5, mDown1 g5 hk nc.2.2.2.2.1 (by omega) b5]
      obtain ⟨x1, x2, x40, x70, x100⟩ := tri_x (g := g) (k := k) (ξ := ξ)
      have eg := tri_eg (g := g) (ξ := ξ) hk
      have gr : GRP s g (only k) l0 μ ξ := (gs g g5).all (fun j w x => w x.1) (fun _ => Int.le_refl _)
      have next : ∀ (y : Int32) (μ' ξ' : gM), CTX s F c μ' ξ' → GRP s g no l0 μ' ξ' → DG s g μ μ' → EG g ξ ξ' → ∃ v μ'' ξ'', fX10_lower_l22 s m (nI k) y2 y (nI (g + 1)) μ' = some (v, μ'') ∧ fX12_goesDown_l19 m (nI k) y2 y (nI (g + 1)) ξ' = some (v, ξ'') ∧ CTX s F c μ'' ξ'' ∧ GRS s μ'' ξ'' ∧ AF s μ μ'' ∧ AR ξ ξ'' ∧ ξ'' 272 1 = ξ 272 1 := fun y μ' ξ' c' g' d' e' => by
        obtain ⟨v, μ'', ξ'', z1, z2, z3, z4, z5, z6, z7⟩ := ih (g + 1) y μ' ξ' c' (nc.mv hs d' e') (fun g1 hg1 => by
          by_cases e1 : g1 = g
          · subst e1
            exact g'.all (fun j _ x => x) (fun _ => Int.le_refl _)
          · exact ((gs g1 hg1).fr g5 hg1 e1 d' e').all (fun j w x => w ⟨x.1, by have := x.2; omega⟩) (fun _ => Int.le_refl _)) (fun g1 h1 h2 => by
          unfold wasH
          rw [(d'.2.2.1 g1 (by omega)).1, e'.2.2 (40 + (6 * g1 + k)) (by omega) (by omega) (by omega) (by omega) (by omega) (by omega) (by omega) (by omega) (by omega)]
          exact wh g1 (by omega) h2) (by rw [e'.k1]; exact dn) (by omega) (by omega)
        exact ⟨v, μ'', ξ'', z1, z2, z3, z4, d'.af.tr z5, (e'.ar g5).tr z6, z7.trans e'.k1⟩
      -- behind the farewell: the class forgets
      have forget : ∀ (μ2 ξ2 : gM), CTX s F c μ2 ξ2 → GRP s g (only k) l0 μ2 ξ2 → DG s g μ μ2 → EG g ξ ξ2 → bt (μ2 (s + 5) g) k = false → ξ2 272 (40 + (6 * g + k)) = 0 → ξ2 272 (70 + (6 * g + k)) = 0 → ξ2 272 (100 + (6 * g + k)) = 0 → CTX s F c (fgt s g k μ2) ξ2 ∧ GRP s g no l0 (fgt s g k μ2) ξ2 ∧ DG s g μ (fgt s g k μ2) := fun μ2 ξ2 c2 g2 d2 e2 b2 w40 w70 w100 => by
        obtain ⟨f1, f2, f3, f4⟩ := fgt_x (s := s) (g := g) (k := k) (μ := μ2)
        have dg := fgt_dg (s := s) (g := g) (μ := μ2) hk
        obtain ⟨-, ⟨-, -, -, -, -, n5⟩, -, a1, a2, a3⟩ := id c2
        refine ⟨c2.mv hs g5 dg (EG.rf _ _) (by rw [f1 s (by omega) (by omega)]; exact n5) ⟨by rw [f1 _ (by omega) (by omega)]; exact a1, a2, fun f => ?_⟩, g2.dn hk rfl rfl (by rw [e2.k1]; exact dn) (fun j _ _ => by rw [f1 _ (by omega) (by omega)]) (by rw [f1 _ (by omega) (by omega)]; exact b2) (fun j _ ne => f2 _ (by omega)) (fun j _ _ => ⟨rfl, rfl, rfl⟩) f3 f4 w40 w70 w100 (by rw [f1 _ (by omega) (by omega)]; exact g2.2.2.2), d2.tr dg⟩
        obtain ⟨p1, p2, p3, p4⟩ := a3 f
        exact ⟨p1.cg (f1 _ (by omega) (by omega)) (f1 _ (by omega) (by omega)) rfl (fun _ _ => rfl), by rw [f1 s (by omega) (by omega)]; exact p2, by rw [f1 s (by omega) (by omega)]; exact p3, by rw [f1 _ (by omega) (by omega)]; exact p4⟩
      obtain ⟨-, ⟨n0, -, -, -, -, n5⟩, -, a1, a2, a3⟩ := id h
      rcases wh g (Nat.le_refl _) g5 with ⟨hb, w2⟩ | ⟨hb, w2⟩
      · -- it held
        rw [if_pos hb, if_pos w2]
        generalize eν : gUp μ (s + 5) g (μ (s + 5) g &&& (((1 : Int32) <<< (nI k &&& 31)) ^^^ (-1 : Int32))) = ν
        have wn : ∀ a, a ≠ s + 5 → ν a = μ a := fun a ha => by rw [← eν, zUp_ne _ ha]
        have w5 : ν (s + 5) = upd (μ (s + 5)) g (μ (s + 5) g &&& (((1 : Int32) <<< (nI k &&& 31)) ^^^ (-1 : Int32))) := by rw [← eν, zUp_row]
        obtain ⟨μ2, e1, q0, la⟩ := cAdd (p := s + 3) (t := ν s 0) (g := nI g) (k := nI k) (w := 2) (μ := ν) (by rw [wn _ (by omega)]; exact a1.1) (by rw [wn _ (by omega)]; exact a1.2)
        obtain ⟨ξ2, e2, r0, ri, lb⟩ := mLogs (g := nI g) (k := nI k) (w := 2) (ξ := tri g k ξ) (by rw [x2 7 (by omega) (by omega) (by omega)]; exact a2)
        rw [wn s (by omega)] at la e1
        have la' : LA (s + 3) (μ s 0) (nI g) (nI k) 2 μ μ2 := la.cg (wn _ (by omega)) (wn _ (by omega))
        have lb' : LB (nI g) (nI k) 2 ξ ξ2 := lb.cg (x2 0 (by omega) (by omega) (by omega)) (x2 7 (by omega) (by omega) (by omega)) (fun i hi => x2 i (by omega) (by omega) (by omega))
        have m2 : ∀ a, a ≠ s + 3 → a ≠ s + 4 → a ≠ s + 5 → μ2 a = μ a := fun a h1 h2 h3 => by rw [q0 a h1 (by omega), wn a h3]
        have m25 : μ2 (s + 5) = upd (μ (s + 5)) g (μ (s + 5) g &&& (((1 : Int32) <<< (nI k &&& 31)) ^^^ (-1 : Int32))) := by rw [q0 _ (by omega) (by omega), w5]
        have xa : ∀ a, a ≠ 272 → ξ2 a = ξ a := fun a ha => by rw [r0 a ha, x1 a ha]
        have xi : ∀ i, i < 245 → i ≠ 7 → i ≠ 40 + (6 * g + k) → i ≠ 70 + (6 * g + k) → i ≠ 100 + (6 * g + k) → ξ2 272 i = ξ 272 i := fun i h1 h2 h3 h4 h5 => by rw [ri i h1 h2, x2 i h3 h4 h5]
        have d2 : DG s g μ μ2 := ⟨fun a h0 h1 h2 h3 _ _ _ _ => m2 a h1 h2 h3, fun i _ _ _ => by rw [m2 s (by omega) (by omega) (by omega)], fun j hj => ⟨by rw [m25, pk_un hj], by rw [m2 _ (by omega) (by omega) (by omega)]⟩, fun j _ => ⟨by rw [m2 _ (by omega) (by omega) (by omega)], by rw [m2 _ (by omega) (by omega) (by omega)]⟩, fun i _ => by rw [m2 _ (by omega) (by omega) (by omega)]⟩
        have eg2 : EG g ξ ξ2 := ⟨fun a _ h1 _ => xa a h1, ⟨fun i _ => by rw [xa 267 (by decide)], fun _ => xi 9 (by omega) (by omega) (by omega) (by omega) (by omega)⟩, fun i h0 h1 h2 h3 h4 h5 h6 h7 h8 => xi i h0 h3 (by omega) (by omega) (by omega)⟩
        have c2 : CTX s F c μ2 ξ2 := h.mv hs g5 d2 eg2 (by rw [m2 s (by omega) (by omega) (by omega), xi 9 (by omega) (by omega) (by omega) (by omega) (by omega)]; exact n5) ⟨la'.b, lb'.b, fun f => by
          obtain ⟨f1, f2, f3, f4⟩ := a3 f
          exact ⟨f1.add n0 la' lb', by rw [m2 s (by omega) (by omega) (by omega), xi 5 (by omega) (by omega) (by omega) (by omega) (by omega)]; exact f2, by rw [m2 s (by omega) (by omega) (by omega), xi 6 (by omega) (by omega) (by omega) (by omega) (by omega)]; exact f3, by rw [m2 _ (by omega) (by omega) (by omega), xa 267 (by decide)]; exact f4⟩⟩
        have gr2 : GRP s g (only k) l0 μ2 ξ2 := by
          obtain ⟨b1, b2, b3, b4⟩ := gr
          refine ⟨fun j mj hj => ?_, fun j hj mj => ?_, fun j h6 h32 => ?_, ?_⟩
          · rw [xa 269 (by decide)] at mj
            have j6 := mj.2.1
            have nk : j ≠ k := hj
            have := b1 j mj hj
            unfold ST at *
            rw [m2 (s + 12) (by omega) (by omega) (by omega), m2 (s + 13) (by omega) (by omega) (by omega), m25, pk_us, (btAnd (by omega)).2 j (by omega) nk, xi 1 (by omega) (by omega) (by omega) (by omega) (by omega), xi (40 + (6 * g + j)) (by omega) (by omega) (by omega) (by omega) (by omega), xi (70 + (6 * g + j)) (by omega) (by omega) (by omega) (by omega) (by omega), xi (100 + (6 * g + j)) (by omega) (by omega) (by omega) (by omega) (by omega)]
            exact this
          · rw [xa 269 (by decide)] at mj
            have nk : j ≠ k := fun e => by
              have := (b2 j hj mj).1
              rw [e, w2] at this
              exact absurd this (by decide)
            rw [m25, pk_us, (btAnd (by omega)).2 j (by omega) nk, xi (40 + (6 * g + j)) (by omega) (by omega) (by omega) (by omega) (by omega)]
            exact b2 j hj mj
          · rw [m25, pk_us, (btAnd (by omega)).2 j h32 (by omega)]; exact b3 j h6 h32
          · rw [m2 _ (by omega) (by omega) (by omega), xi _ (by omega) (by omega) (by omega) (by omega) (by omega)]; exact b4
        have b25 : bt (μ2 (s + 5) g) k = false := by rw [m25, pk_us]; exact (btAnd (by omega)).1
        have y40 : ξ2 272 (40 + (6 * g + k)) = 0 := by rw [ri _ (by omega) (by omega)]; exact x40
        have y70 : ξ2 272 (70 + (6 * g + k)) = 0 := by rw [ri _ (by omega) (by omega)]; exact x70
        have y100 : ξ2 272 (100 + (6 * g + k)) = 0 := by rw [ri _ (by omega) (by omega)]; exact x100
        rw [e1, zBd_some, e2, zBd_some]
        rcases hy with rfl | rfl
        · rw [if_pos rfl, if_pos rfl]
          obtain ⟨c3, g3, d3⟩ := forget μ2 ξ2 c2 gr2 d2 eg2 b25 y40 y70 y100
          exact next _ _ _ c3 g3 d3 eg2
        · rw [if_neg one_n0, if_neg one_n0]
          obtain ⟨μ3, ξ3, e3, e4, c3, g3, d3, eg3, z40, z5, z70, z100⟩ := pFare hs g5 hk c2 gr2 y40 (by rw [eg2.k1]; exact dn)
          rw [e3, zBd_some, e4, zBd_some]
          obtain ⟨c4, g4, d4⟩ := forget μ3 ξ3 c3 g3 (d2.tr d3) (eg2.tr eg3) (by rw [z5]; exact b25) z40 (z70.trans y70) (z100.trans y100)
          exact next _ _ _ c4 g4 d4 (eg2.tr eg3)
      · rw [if_neg (show ¬ bt (μ (s + 5) g) k = true by rw [hb]; decide), if_neg w2]
        have c1 : CTX s F c μ (tri g k ξ) := h.mv hs g5 (DG.rf _ _ _) eg (by rw [x2 9 (by omega) (by omega) (by omega)]; exact n5) ⟨a1, by rw [x2 7 (by omega) (by omega) (by omega)]; exact a2, fun f => by
          obtain ⟨f1, f2, f3, f4⟩ := a3 f
          exact ⟨f1.cg rfl rfl (x2 7 (by omega) (by omega) (by omega)) (fun i hi => x2 i (by omega) (by omega) (by omega)), by rw [x2 5 (by omega) (by omega) (by omega)]; exact f2, by rw [x2 6 (by omega) (by omega) (by omega)]; exact f3, by rw [x1 267 (by decide)]; exact f4⟩⟩
        have g1 : GRP s g (only k) l0 μ (tri g k ξ) := by
          obtain ⟨b1, b2, b3, b4⟩ := gr
          refine ⟨fun j mj hj => ?_, fun j hj mj => ?_, b3, by rw [x2 _ (by omega) (by omega) (by omega)]; exact b4⟩
          · rw [x1 269 (by decide)] at mj
            have j6 := mj.2.1
            have nk : j ≠ k := hj
            have := b1 j mj hj
            unfold ST at *
            rw [x2 1 (by omega) (by omega) (by omega), x2 (40 + (6 * g + j)) (by omega) (by omega) (by omega), x2 (70 + (6 * g + j)) (by omega) (by omega) (by omega), x2 (100 + (6 * g + j)) (by omega) (by omega) (by omega)]
            exact this
          · rw [x1 269 (by decide)] at mj
            by_cases ej : j = k
            · subst ej
              exact ⟨x40, hb⟩
            · rw [x2 (40 + (6 * g + j)) (by omega) (by omega) (by omega)]
              exact b2 j hj mj
        obtain ⟨c4, g4, d4⟩ := forget μ (tri g k ξ) c1 g1 (DG.rf _ _ _) eg hb x40 x70 x100
        exact next _ _ _ c4 g4 d4 eg
/-- a gate that is up goes down, in both -/
theorem pLower {s k cn cl cg ct : Nat} {F : Prop} {c y2 : Int32} {μ ξ : gM} (hs : 34 ≤ s) (h : SR s F c μ ξ) (nc : NC μ ξ cn cl cg ct) (hk : k < cn) (hy : y2 = 0 ∨ y2 = 1) : ∃ v μ' ξ', fX10_lower s (nI k) y2 μ = some (v, μ') ∧ fX12_goesDown (nI k) y2 ξ = some (v, ξ') ∧ SR s F c μ' ξ' ∧ AF s μ μ' ∧ AR ξ ξ' ∧ ξ' 272 1 = (ξ 272 1 &&& (((1 : Int32) <<< (nI k &&& 31)) ^^^ (-1 : Int32))) := by
  obtain ⟨h1, h2, h3⟩ := h
  have k6 : k < 6 := by have := nc.1.1; omega
  have n1 : μ s 1 = ξ 272 1 := h1.2.1.2.1
  have c1 := h1.ups (v := ξ 272 1 &&& (((1 : Int32) <<< (nI k &&& 31)) ^^^ (-1 : Int32))) hs
  have gs : ∀ g', g' < 5 → GRP s g' (oX k 0 g') l0 (gUp μ s 1 (ξ 272 1 &&& (((1 : Int32) <<< (nI k &&& 31)) ^^^ (-1 : Int32)))) (gUp ξ 272 1 (ξ 272 1 &&& (((1 : Int32) <<< (nI k &&& 31)) ^^^ (-1 : Int32)))) := fun g' hg' => ((h2 g' hg').ups (fun j hj ne => (btAnd (by omega)).2 j (by omega) ne)).all (fun j w x => w (by
    rcases x with x | x
    · exact absurd x id
    · exact ⟨x, Nat.zero_le _⟩)) (fun _ => Int.le_refl _)
  have wh : ∀ g', 0 ≤ g' → g' < 5 → wasH s k (gUp μ s 1 (ξ 272 1 &&& (((1 : Int32) <<< (nI k &&& 31)) ^^^ (-1 : Int32)))) (gUp ξ 272 1 (ξ 272 1 &&& (((1 : Int32) <<< (nI k &&& 31)) ^^^ (-1 : Int32)))) g' := fun g' _ hg' => by
    unfold wasH
    rw [zUp_ne _ (by omega), zUp_slot _ (by omega)]
    rcases (h2 g' hg').hb hg' k6 with ⟨z, b, -⟩ | ⟨z, b, -⟩ | ⟨z, b, -⟩
    · exact Or.inr ⟨b, by rw [z]; decide⟩
    · exact Or.inr ⟨b, by rw [z]; decide⟩
    · exact Or.inl ⟨b, z⟩
  have a0 : AF s μ (gUp μ s 1 (ξ 272 1 &&& (((1 : Int32) <<< (nI k &&& 31)) ^^^ (-1 : Int32)))) := ⟨fun a ha => zUp_ne _ (by omega), fun i _ => by rw [zUp_ne _ (by omega)], fun i h1 _ _ _ => zUp_slot _ h1⟩
  have r0 : AR ξ (gUp ξ 272 1 (ξ 272 1 &&& (((1 : Int32) <<< (nI k &&& 31)) ^^^ (-1 : Int32)))) := ⟨fun a _ h1 _ => zUp_ne _ h1, fun i _ => by rw [zUp_ne _ (by decide)], fun i hi => zUp_slot _ (by omega)⟩
  obtain ⟨v, μ', ξ', e1, e2, x3, x4, x5, x6, x7⟩ := pLower_l hs k6 hy 100000 0 (nI 0) _ _ c1 (nc.af hs a0 r0) gs wh (by rw [zUp_same]; exact (btAnd (by omega)).1) (Nat.zero_le _) (by decide)
  have a1 := a0.tr x5
  have r1 := r0.tr x6
  refine ⟨v, μ', ξ', ?_, ?_, ⟨x3, x4, fun g hg => (h3 g hg).mv hg a1 r1⟩, a1, r1, by rw [x7, zUp_same]⟩
  · unfold fX10_lower
    rw [zLt_eq, n1, z32]
    exact e1
  · unfold fX12_goesDown
    rw [zLt_eq, z32]
    exact e2
