/-! the plan in both -/
def tkI (ξ : gM) : Int := (ξ 272 0).toInt
def atI (ξ : gM) (k : Nat) : Int := (ξ 272 (145 + 5 * k)).toInt
/-- an event that may happen -/
def EVK (ξ : gM) (k : Nat) : Prop := (0 ≤ atI ξ k ∧ atI ξ k ≤ 9999) ∧ ((ξ 272 (145 + (5 * k + 1)) = 0 ∧ ∃ w : Nat, (w : Int) < (ξ 269 0).toInt ∧ ξ 272 (145 + (5 * k + 2)) = nI w) ∨ (ξ 272 (145 + (5 * k + 1)) = 1 ∧ ∃ w : Nat, (w : Int) < (ξ 269 0).toInt ∧ ξ 272 (145 + (5 * k + 2)) = nI w) ∨ ξ 272 (145 + (5 * k + 1)) = 2 ∨ ξ 272 (145 + (5 * k + 1)) = 3 ∨ ξ 272 (145 + (5 * k + 1)) = 4 ∨ ξ 272 (145 + (5 * k + 1)) = 5 ∨ (ξ 272 (145 + (5 * k + 1)) = 6 ∧ ∃ g w : Nat, mem (ξ 269) g w ∧ ξ 272 (145 + (5 * k + 2)) = nI w ∧ ξ 272 (145 + (5 * k + 3)) = nI g ∧ 1 ≤ (ξ 272 (145 + (5 * k + 4))).toInt ∧ (ξ 272 (145 + (5 * k + 4))).toInt ≤ 255))
/-- the rows of both plans alike, in their order -/
def PLN (s n : Nat) (μ ξ : gM) : Prop := n ≤ 20 ∧ μ (s + 1) 0 = nI n ∧ ξ 272 8 = nI n ∧ (∀ i, i < 5 * n → μ (s + 2) i = ξ 272 (145 + i)) ∧ (∀ k, k < n → EVK ξ k) ∧ ∀ k, k + 1 < n → atI ξ k ≤ atI ξ (k + 1)
/-- which event is next at a tick -/
def NX (s n nx : Nat) (t : Int) (μ ξ : gM) : Prop := nx ≤ n ∧ μ s 8 = nI nx ∧ (∀ k, k < nx → atI ξ k < t) ∧ ∀ k, nx ≤ k → k < n → t ≤ atI ξ k
theorem PLN.mv {s n : Nat} {μ ξ μ' ξ' : gM} (h : PLN s n μ ξ) (t : TF s μ μ') (r : RF ξ ξ') : PLN s n μ' ξ' := by
  obtain ⟨h1, h2, h3, h4, h5, h6⟩ := h
  have e9 : ξ' 269 = ξ 269 := r.1 269 (by decide) (by decide) (by decide)
  have ea : ∀ k, k < 20 → atI ξ' k = atI ξ k := fun k hk => by unfold atI; rw [r.2.2 _ (by omega)]
  refine ⟨h1, by rw [t.1 _ (by omega)]; exact h2, by rw [r.2.2 8 (by omega)]; exact h3, fun i hi => by rw [t.1 _ (by omega), r.2.2 _ (by omega)]; exact h4 i hi, fun k hk => ?_, fun k hk => by rw [ea k (by omega), ea (k + 1) (by omega)]; exact h6 k hk⟩
  have := h5 k hk
  unfold EVK at *
  rw [ea k (by omega), e9, r.2.2 (145 + (5 * k + 1)) (by omega), r.2.2 (145 + (5 * k + 2)) (by omega), r.2.2 (145 + (5 * k + 3)) (by omega), r.2.2 (145 + (5 * k + 4)) (by omega)]
  exact this
theorem atI.mv {ξ ξ' : gM} (r : RF ξ ξ') {k : Nat} (hk : k < 20) : atI ξ' k = atI ξ k := by unfold atI; rw [r.2.2 _ (by omega)]
/-- the class's event, without what goes on behind it -/
def cEv (s k : Nat) (μ : gM) : Option gM := if μ (s + 2) (5 * k + 1) = (0 : Int32) then fX10_raise s (((1 : Int32) <<< (μ (s + 2) (5 * k + 2) &&& 31)) &&& ((μ s 1) ^^^ (-1 : Int32))) μ else if μ (s + 2) (5 * k + 1) = (1 : Int32) then zBp (fX10_lower s (μ (s + 2) (5 * k + 2)) (0 : Int32) μ) (fun _ μ' => some μ') else if μ (s + 2) (5 * k + 1) = (2 : Int32) then fX10_setCuts s ((μ s 2) ||| ((1 : Int32) <<< (μ (s + 2) (5 * k + 2) &&& 31))) μ else if μ (s + 2) (5 * k + 1) = (3 : Int32) then fX10_setCuts s ((μ s 2) &&& (((1 : Int32) <<< (μ (s + 2) (5 * k + 2) &&& 31)) ^^^ (-1 : Int32))) μ else if μ (s + 2) (5 * k + 1) = (4 : Int32) then some (gUp μ s 3 (μ (s + 2) (5 * k + 2))) else if μ (s + 2) (5 * k + 1) = (5 : Int32) then some (gUp μ s 3 (0 : Int32)) else if μ (s + 2) (5 * k + 1) = (6 : Int32) then fX10_tell s (μ (s + 2) (5 * k + 3)) (μ (s + 2) (5 * k + 2)) (μ (s + 2) (5 * k + 4)) μ else some μ
theorem zBd_as {α : Type} {m : Option (Int32 × gM)} {K : gM → Option α} : zBd (zBp m (fun _ μ' => some μ')) K = zBp m (fun _ μ' => K μ') := by
  cases m with
  | none => rfl
  | some r => rfl
theorem cHap {s k n m : Nat} {μ : gM} (hn : n ≤ 20) (hk : k < n) (h0 : μ (s + 1) 0 = nI n) (ht : μ (s + 2) (5 * k) = μ s 0) : fX10_happen_l8 s (m + 1) (nI k) μ = zBd (cEv s k (gUp μ s 8 (nI (k + 1)))) (fun μ' => fX10_happen_l8 s m (nI (k + 1)) μ') := by
  have e0 : nI k * (5 : Int32) = nI (5 * k) := by rw [show (5 : Int32) = nI 5 from rfl, pk_mul, Nat.mul_comm]
  have ea : fX5_at (s + 1) (nI k) μ = some (μ (s + 2) (5 * k)) := by
    unfold fX5_at zCk
    rw [e0, if_pos (gI (by omega) (by decide)), nI_clamp (by omega)]
  have a1 : nI (5 * k) + (1 : Int32) = nI (5 * k + 1) := nI_add _ 1
  have a2 : nI (5 * k) + (2 : Int32) = nI (5 * k + 2) := nI_add _ 2
  have a3 : nI (5 * k) + (3 : Int32) = nI (5 * k + 3) := nI_add _ 3
  have a4 : nI (5 * k) + (4 : Int32) = nI (5 * k + 4) := nI_add _ 4
  have w2 : gUp μ s 8 (nI (k + 1)) (s + 2) = μ (s + 2) := zUp_ne _ (by omega)
  have k1 : nI k + (1 : Int32) = nI (k + 1) := nI_1 k
  rw [fX10_happen_l8, h0, if_neg (fun w => by have := (nIle (by omega) (by omega)).mp w; omega), ea, zBd_some, if_pos ht, k1, zLt_eq, zLt_eq, e0, a1, a2, a3, a4]
  unfold zCk
  rw [if_pos (gI (by omega) (by decide)), nI_clamp (by omega), zLt_eq, if_pos (gI (by omega) (by decide)), nI_clamp (by omega), zLt_eq]
  unfold cEv
  generalize gUp μ s 8 (nI (k + 1)) = ν at *
  by_cases c0 : ν (s + 2) (5 * k + 1) = 0
  · rw [if_pos c0, if_pos c0]; congr 1
  · rw [if_neg c0, if_neg c0]
    by_cases c1 : ν (s + 2) (5 * k + 1) = 1
    · rw [if_pos c1, if_pos c1, zBd_as]; rfl
    · rw [if_neg c1, if_neg c1]
      by_cases c2 : ν (s + 2) (5 * k + 1) = 2
      · rw [if_pos c2, if_pos c2]; congr 1
      · rw [if_neg c2, if_neg c2]
        by_cases c3 : ν (s + 2) (5 * k + 1) = 3
        · rw [if_pos c3, if_pos c3]; congr 1
        · rw [if_neg c3, if_neg c3]
          by_cases c4 : ν (s + 2) (5 * k + 1) = 4
          · rw [if_pos c4, if_pos c4, zBd_some, zLt_eq, zLt_eq]
          · rw [if_neg c4, if_neg c4]
            by_cases c5 : ν (s + 2) (5 * k + 1) = 5
            · rw [if_pos c5, if_pos c5, zBd_some, zLt_eq, zLt_eq]
            · rw [if_neg c5, if_neg c5]
              by_cases c6 : ν (s + 2) (5 * k + 1) = 6
              · rw [if_pos c6, if_pos c6, if_pos (gI (by omega) (by decide)), if_pos (gI (by omega) (by decide)), nI_clamp (by omega), nI_clamp (by omega)]; congr 1
              · rw [if_neg c6, if_neg c6, zBd_some, zLt_eq]
/-- what an event leaves -/
def EF (s : Nat) (μ ξ μ' ξ' : gM) : Prop := TF s μ μ' ∧ RF ξ ξ' ∧ μ' s 0 = μ s 0 ∧ μ' s 8 = μ s 8 ∧ ξ' 272 0 = ξ 272 0
theorem EF.tr {s : Nat} {μ ξ μ' ξ' μ'' ξ'' : gM} (h : EF s μ ξ μ' ξ') (k : EF s μ' ξ' μ'' ξ'') : EF s μ ξ μ'' ξ'' := ⟨h.1.tr k.1, h.2.1.tr k.2.1, k.2.2.1.trans h.2.2.1, k.2.2.2.1.trans h.2.2.2.1, k.2.2.2.2.trans h.2.2.2.2⟩
theorem EF.of {s : Nat} {μ ξ μ' ξ' : gM} (a : AF s μ μ') (r : AR ξ ξ') : EF s μ ξ μ' ξ' := ⟨a.tf, r.rf', a.2.2 0 (by decide) (by decide) (by decide) (by decide), a.2.2 8 (by decide) (by decide) (by decide) (by decide), r.2.2 0 (by omega)⟩
/-- links cut or mended, the groups' part -/
theorem SR.cuts {s : Nat} {F : Prop} {c v : Int32} {μ ξ : gM} (hs : 34 ≤ s) (h : SR s F c μ ξ) : ∃ μ', fX10_setCuts s v μ = some μ' ∧ SR s F c μ' (gUp ξ 272 2 v) ∧ EF s μ ξ μ' (gUp ξ 272 2 v) ∧ (∀ i, i ≠ 2 → μ' s i = μ s i) ∧ ∀ a, a ≠ s → a ≠ s + 10 → a ≠ s + 11 → μ' a = μ a := by
  obtain ⟨h1, h2, h3⟩ := h
  obtain ⟨μ', e, c1, fa, fs⟩ := pCuts (v := v) hs h1
  refine ⟨μ', e, ⟨c1, fun g hg => (h2 g hg).cg hg (fun a ha => fa a (by omega) (by omega) (by omega)) (zUp_ne _ (by decide)) (fun i hi => zUp_slot _ (by omega)), fun g hg => ?_⟩, ⟨⟨fun a ha => fa a (by omega) (by omega) (by omega), fun i _ => by rw [fa _ (by omega) (by omega) (by omega)]⟩, ⟨fun a _ h1 _ => zUp_ne _ h1, fun i _ => by rw [zUp_ne _ (by decide)], fun i hi => zUp_slot _ (by omega)⟩, fs 0 (by decide), fs 8 (by decide), zUp_slot _ (by decide)⟩, fs, fa⟩
  have := h3 g hg
  unfold CN at *
  rw [fa _ (by omega) (by omega) (by omega), fa _ (by omega) (by omega) (by omega), zUp_slot _ (by omega), zUp_slot _ (by omega)]
  exact this
theorem SR.tell {s g k : Nat} {F : Prop} {c v : Int32} {μ ξ : gM} (hs : 34 ≤ s) (h : SR s F c μ ξ) (m : mem (ξ 269) g k) (b : 1 ≤ v.toInt ∧ v.toInt ≤ 255) : ∃ μ', fX10_tell s (nI g) (nI k) v μ = some μ' ∧ SR s F c μ' (gUp ξ 272 (10 + (6 * g + k)) v) ∧ EF s μ ξ μ' (gUp ξ 272 (10 + (6 * g + k)) v) ∧ ∀ a, a ≠ s + 9 → a ≠ s + 10 → a ≠ s + 11 → μ' a = μ a := by
  obtain ⟨h1, h2, h3⟩ := h
  have := m.1
  have := m.2.1
  obtain ⟨μ', e, c1, fa⟩ := pTell (v := v) hs h1 m b
  refine ⟨μ', e, ⟨c1, fun g' hg => (h2 g' hg).cg hg (fun a ha => fa a (by omega) (by omega) (by omega)) (zUp_ne _ (by decide)) (fun i hi => zUp_slot _ (by omega)), fun g' hg => ?_⟩, ⟨⟨fun a ha => fa a (by omega) (by omega) (by omega), fun i _ => by rw [fa _ (by omega) (by omega) (by omega)]⟩, ⟨fun a _ h1 _ => zUp_ne _ h1, fun i _ => by rw [zUp_ne _ (by decide)], fun i hi => zUp_slot _ (by omega)⟩, by rw [fa s (by omega) (by omega) (by omega)], by rw [fa s (by omega) (by omega) (by omega)], zUp_slot _ (by omega)⟩, fa⟩
  have := h3 g' hg
  unfold CN at *
  rw [fa _ (by omega) (by omega) (by omega), fa _ (by omega) (by omega) (by omega), zUp_slot _ (by omega), zUp_slot _ (by omega)]
  exact this
/-- the parts -/
theorem SR.part {s : Nat} {F : Prop} {c v : Int32} {μ ξ : gM} (hs : 34 ≤ s) (h : SR s F c μ ξ) : SR s F c (gUp μ s 3 v) (gUp ξ 272 3 v) ∧ EF s μ ξ (gUp μ s 3 v) (gUp ξ 272 3 v) := by
  have wm : ∀ a, a ≠ s → gUp μ s 3 v a = μ a := fun a ha => zUp_ne _ ha
  have wx : ∀ a, a ≠ 272 → gUp ξ 272 3 v a = ξ a := fun a ha => zUp_ne _ ha
  have wi : ∀ i, i ≠ 3 → gUp ξ 272 3 v 272 i = ξ 272 i := fun i hi => zUp_slot _ hi
  have ws : ∀ i, i ≠ 3 → gUp μ s 3 v s i = μ s i := fun i hi => zUp_slot _ hi
  obtain ⟨⟨hn, ⟨n0, n1, n2, n3, n4, n5⟩, hw, a1, a2, a3⟩, h2, h3⟩ := h
  refine ⟨⟨⟨hn.fr (fun a h1 h2 => wm a (by omega)) (wx 269 (by decide)), ⟨by rw [ws 0 (by decide), wi 0 (by decide)]; exact n0, by rw [ws 1 (by decide), wi 1 (by decide)]; exact n1, by rw [ws 2 (by decide), wi 2 (by decide)]; exact n2, by rw [zUp_same, zUp_same], by rw [ws 4 (by decide), wi 4 (by decide)]; exact n4, by rw [ws 5 (by decide), wi 9 (by decide)]; exact n5⟩, fun g k m => ?_, by rw [wm _ (by omega)]; exact a1, by rw [wi 7 (by decide)]; exact a2, fun f => ?_⟩, fun g hg => (h2 g hg).cg hg (fun a ha => wm a (by omega)) (wx 269 (by decide)) (fun i hi => wi i (by omega)), fun g hg => ?_⟩, ⟨⟨fun a ha => wm a (by omega), fun i _ => by rw [wm _ (by omega)]⟩, ⟨fun a _ h1 _ => wx a h1, fun i _ => by rw [wx 267 (by decide)], fun i hi => wi i (by omega)⟩, ws 0 (by decide), ws 8 (by decide), wi 0 (by decide)⟩⟩
  · rw [wx 269 (by decide)] at m
    rw [wm _ (by omega), wm _ (by omega), wm _ (by omega), wx 269 (by decide), wi 2 (by decide), wi _ (by omega)]
    exact hw g k m
  · obtain ⟨f1, f2, f3, f4⟩ := a3 f
    exact ⟨f1.cg (wm _ (by omega)) (wm _ (by omega)) (wi 7 (by decide)) (fun i hi => wi i (by omega)), by rw [ws 6 (by decide), wi 5 (by decide)]; exact f2, by rw [ws 7 (by decide), wi 6 (by decide)]; exact f3, by rw [wm _ (by omega), wx 267 (by decide)]; exact f4⟩
  · have := h3 g hg
    unfold CN at *
    rw [wm _ (by omega), wm _ (by omega), wi _ (by omega), wi _ (by omega)]
    exact this
