/-! the text of a plan -/
theorem bdI {α β : Type} {o : Option α} {f : α → Option β} {r : β} (h : zBd o f = some r) : ∃ a, o = some a ∧ f a = some r := by
  cases o with
  | none => exact absurd h (fun w => by cases w)
  | some a => exact ⟨a, rfl, h⟩
theorem bpI {β : Type} {o : Option (Int32 × gM)} {f : Int32 → gM → Option β} {r : β} (h : zBp o f = some r) : ∃ a μ, o = some (a, μ) ∧ f a μ = some r := by
  cases o with
  | none => exact absurd h (fun w => by cases w)
  | some a => exact ⟨a.1, a.2, rfl, h⟩
theorem ckI {α : Type} {c : Bool} {o : Option α} {r : α} (h : zCk c o = some r) : o = some r := by
  unfold zCk at h
  by_cases w : c = true
  · rw [if_pos w] at h; exact h
  · rw [if_neg w] at h; cases h
theorem failI {k p : Int32} {ξ ζ : gM} (k0 : k ≠ 0) (h : fX12_fail k p ξ = some ζ) : ζ 267 6 ≠ 0 ∧ ζ 267 12 = ξ 267 12 := by
  unfold fX12_fail at h
  by_cases c : ξ 267 6 = 0
  · rw [if_pos c, zLt_eq, zLt_eq] at h
    obtain rfl := Option.some.inj h
    exact ⟨by rw [zUp_slot _ (by decide), zUp_same]; exact k0, by rw [zUp_slot _ (by decide), zUp_slot _ (by decide)]⟩
  · rw [if_neg c] at h
    obtain rfl := Option.some.inj h
    exact ⟨c, rfl⟩
theorem unlI {ξ ζ : gM} (h : fX12_unlike ξ = some ζ) : ζ 267 6 ≠ 0 := by
  unfold fX12_unlike at h
  obtain ⟨x, μ2, e, h⟩ := bpI h
  obtain ⟨μ3, e3, h⟩ := bdI h
  obtain rfl := Option.some.inj h
  exact (failI (by decide) e3).1
theorem num75I {a1 a2 : Int32} : ∀ (m : Nat) (y3 y4 y5 y6 : Int32) (ξ : gM) (r : Int32 × gM), fX12_number_l75 m a1 a2 y3 y4 y5 y6 ξ = some r → r.2 267 12 = ξ 267 12 := by
  intro m
  induction m with
  | zero => intro y3 y4 y5 y6 ξ r h; rw [fX12_number_l75] at h; cases h
  | succ m ih =>
    intro y3 y4 y5 y6 ξ r h
    rw [fX12_number_l75] at h
    by_cases c : y4 ≤ y6
    · rw [if_pos c, zLt_eq, zLt_eq] at h
      obtain ⟨x9, -, h⟩ := bdI h
      by_cases c9 : x9 = 0
      · rw [if_pos c9] at h
        obtain ⟨ζ, e, h⟩ := bdI h
        obtain rfl := Option.some.inj h
        show ζ 267 12 = _
        rw [(failI (by decide) e).2, zUp_slot _ (by decide), zUp_slot _ (by decide)]
      · rw [if_neg c9] at h
        obtain rfl := Option.some.inj h
        dsimp only
        rw [zUp_slot _ (by decide), zUp_slot _ (by decide)]
    · rw [if_neg c] at h
      have h := ckI h
      rw [zLt_eq, zLt_eq] at h
      exact ih _ _ _ _ _ _ h
theorem n60I {y1 y2 y3 y4 : Int32} {ξ : gM} {r : Int32 × gM} (h : fX12_number_n60 y1 y2 y3 y4 ξ = some r) : r.2 267 12 = ξ 267 12 := by
  unfold fX12_number_n60 at h
  obtain ⟨x, -, h⟩ := bdI h
  by_cases c : x = 0
  · rw [if_pos c] at h
    obtain rfl := Option.some.inj h
    rfl
  · rw [if_neg c] at h
    exact num75I _ _ _ _ _ _ _ h
theorem n56I {y1 y2 y3 y4 : Int32} {ξ : gM} {r : Int32 × gM} (h : fX12_number_n56 y1 y2 y3 y4 ξ = some r) : r.2 267 6 ≠ 0 := by
  unfold fX12_number_n56 at h
  obtain ⟨μ7, e, h⟩ := bdI h
  unfold fX12_number_n60 at h
  rw [mFine0 (unlI e), zBd_some, if_pos rfl] at h
  obtain rfl := Option.some.inj h
  exact unlI e
theorem num13I {a1 a2 : Int32} : ∀ (m : Nat) (y3 y4 : Int32) (ξ : gM) (r : Int32 × gM), fX12_number_l13 m a1 a2 y3 y4 ξ = some r → r.2 267 6 = 0 → r.2 267 12 = ξ 267 12 := by
  intro m
  induction m with
  | zero => intro y3 y4 ξ r h; rw [fX12_number_l13] at h; cases h
  | succ m ih =>
    intro y3 y4 ξ r h f
    rw [fX12_number_l13] at h
    obtain ⟨x4, -, h⟩ := bdI h
    by_cases c : x4 = 0
    · rw [if_pos c] at h
      obtain ⟨x5, -, h⟩ := bdI h
      by_cases c5 : x5 = 0
      · rw [if_pos c5] at h; exact n60I h
      · rw [if_neg c5] at h
        by_cases d1 : y4 = 0
        · rw [if_pos d1] at h; exact absurd f (n56I h)
        · rw [if_neg d1] at h
          by_cases d2 : (4 : Int32) < y4
          · rw [if_pos d2] at h; exact absurd f (n56I h)
          · rw [if_neg d2] at h
            by_cases d3 : y3 = ξ 267 5
            · rw [if_pos d3] at h; exact absurd f (n56I h)
            · rw [if_neg d3] at h; exact n60I h
    · rw [if_neg c, zLt_eq] at h
      exact ih _ _ _ _ h f
theorem numI {b : Nat → Nat} {n s : Nat} {g : Int} {μ ξ ξ' : gM} {a1 a2 y : Int32} (h : SIM b n s g μ ξ) (e : fX12_number a1 a2 ξ = some (y, ξ')) (f : ξ' 267 6 = 0) : (ξ' 267 12).toInt = s := by
  unfold fX12_number at e
  obtain ⟨x, μ2, e1, e⟩ := bpI e
  rw [zLt_eq] at e
  have w := num13I _ _ _ _ _ e f
  obtain ⟨p, q1, q2, q3, q4⟩ := h.2.2.2.2.1
  obtain ⟨⟨x', ζ⟩, eζ, t, k1, k2, k3, k4⟩ := mNext h.2.2.2.1 q1 q2
  rw [e1] at eζ
  obtain ⟨rfl, rfl⟩ := Prod.mk.inj (Option.some.inj eζ)
  have et : t = s := Skp.uniq k1 q3
  subst et
  have w : ξ' 267 12 = gUp μ2 267 12 x 267 12 := w
  rw [w, zUp_same]
  exact k2
theorem pFrom {b : Nat → Nat} {n s : Nat} {g : Int} {μ ξ : gM} {lo : Int32} (hlo : 0 ≤ lo.toInt) (h : SIM b n s g μ ξ) : ∃ (x y : Int32) (μ' ξ' : gM), fX7_number lo 9999 μ = some (x, μ') ∧ fX12_number 0 9999 ξ = some (y, ξ') ∧ CF μ μ' ∧ MF pF ξ ξ' ∧ ((x = y ∧ lo.toInt ≤ x.toInt ∧ x.toInt ≤ 9999 ∧ ∃ s' g', SIM b n s' g' μ' ξ') ∨ (x = -1 ∧ ξ' 267 6 = 0 ∧ 0 ≤ y.toInt ∧ y.toInt < lo.toInt ∧ MP b n ξ' ∧ μ' 1 7 = 4 ∧ μ' 1 8 = ξ' 267 12) ∨ (x = -1 ∧ FLT b n μ' ξ')) := by
  obtain ⟨x0, y, μ0, ξ', e1, e2, cf, mf, c⟩ := pNumber (lo := 0) (hi := 9999) (by decide) h
  have z : (0 : Int32).toInt = 0 := rfl
  have z9 : (9999 : Int32).toInt = 9999 := rfl
  have zm : (-1 : Int32).toInt = -1 := rfl
  obtain ⟨ν, r1, r2, r3, r4⟩ := cRefuse (k := 4) (p := μ 1 5) (μ := μ)
  have n35 : fX7_number_n35 μ = some (-1, ν) := by unfold fX7_number_n35; rw [r1]; rfl
  have e1' := e1
  unfold fX7_number at e1'
  unfold fX7_number
  by_cases k2 : μ 1 4 = 2
  · rw [if_pos k2, zLt_eq] at e1'
    rw [if_pos k2, zLt_eq]
    by_cases v0 : μ 1 6 < 0
    · have v0' := Int32.lt_iff_toInt_lt.mp v0
      rw [if_pos v0, n35] at e1'
      obtain ⟨rfl, rfl⟩ := Prod.mk.inj (Option.some.inj e1')
      rw [if_pos (Int32.lt_iff_toInt_lt.mpr (by omega)), n35]
      refine ⟨-1, y, ν, ξ', rfl, e2, cf, mf, ?_⟩
      rcases c with ⟨-, c2, -⟩ | c
      · omega
      · exact Or.inr (Or.inr c)
    · have v0' : ¬ (μ 1 6).toInt < (0 : Int32).toInt := fun w => v0 (Int32.lt_iff_toInt_lt.mpr w)
      rw [if_neg v0] at e1'
      by_cases v9 : μ 1 6 ≤ 9999
      · have v9' := Int32.le_iff_toInt_le.mp v9
        rw [if_pos v9] at e1'
        obtain ⟨μa, ea, e1'⟩ := bdI e1'
        obtain ⟨rfl, rfl⟩ := Prod.mk.inj (Option.some.inj e1')
        by_cases vl : μ 1 6 < lo
        · have vl' := Int32.lt_iff_toInt_lt.mp vl
          rw [if_pos vl, n35]
          rcases c with ⟨c1, c2, c3, s', g', sm⟩ | ⟨c1, -⟩
          · exact ⟨-1, y, ν, ξ', rfl, e2, r4, mf, Or.inr (Or.inl ⟨rfl, sm.2.2.2.2.2.2, by rw [← c1]; omega, by rw [← c1]; exact vl', sm.mp, r2, by rw [r3]; exact i_eq h.2.1.1 (numI h e2 sm.2.2.2.2.2.2)⟩)⟩
          · rw [c1] at v0'; omega
        · have vl' : ¬ (μ 1 6).toInt < lo.toInt := fun w => vl (Int32.lt_iff_toInt_lt.mpr w)
          rw [if_neg vl, if_pos v9, ea, zBd_some]
          rcases c with ⟨c1, c2, c3, sm⟩ | ⟨c1, -⟩
          · exact ⟨_, y, μa, ξ', rfl, e2, cf, mf, Or.inl ⟨c1, by omega, by omega, sm⟩⟩
          · rw [c1] at v0'; omega
      · rw [if_neg v9, n35] at e1'
        obtain ⟨rfl, rfl⟩ := Prod.mk.inj (Option.some.inj e1')
        have en : (if μ 1 6 < lo then fX7_number_n35 μ else (if μ 1 6 ≤ 9999 then zBd (fX7_advance μ) (fun μ4 => some (μ 1 6, μ4)) else fX7_number_n35 μ)) = some (-1, ν) := by
          rw [if_neg v9]
          split <;> exact n35
        rw [en]
        refine ⟨-1, y, ν, ξ', rfl, e2, cf, mf, ?_⟩
        rcases c with ⟨-, c2, -⟩ | c
        · omega
        · exact Or.inr (Or.inr c)
  · rw [if_neg k2] at e1'
    rw [if_neg k2, e1']
    obtain ⟨ν1, q1, -⟩ := cRefuse (k := 1) (p := μ 1 5) (μ := μ)
    rw [q1, zBp_some] at e1'
    obtain ⟨rfl, rfl⟩ := Prod.mk.inj (Option.some.inj e1')
    refine ⟨-1, y, ν1, ξ', rfl, e2, cf, mf, ?_⟩
    rcases c with ⟨-, c2, -⟩ | c
    · omega
    · exact Or.inr (Or.inr c)
/-! drafts of a plan -/
def XP (μ ν : gM) : Prop := (∀ a, a ≠ 1 → a ≠ 32 → a ≠ 33 → ν a = μ a) ∧ ν 1 2 = μ 1 2
def YP (ξ ζ : gM) : Prop := (∀ a, a ≠ 267 → a ≠ 271 → ζ a = ξ a) ∧ ∀ i, ¬ pF i → ζ 267 i = ξ 267 i
theorem XP.tr {a b c : gM} (h : XP a b) (g : XP b c) : XP a c := ⟨fun i h1 h2 h3 => (g.1 i h1 h2 h3).trans (h.1 i h1 h2 h3), g.2.trans h.2⟩
theorem YP.tr {a b c : gM} (h : YP a b) (g : YP b c) : YP a c := ⟨fun i h1 h2 => (g.1 i h1 h2).trans (h.1 i h1 h2), fun i hi => (g.2 i hi).trans (h.2 i hi)⟩
theorem CF.xp {a b : gM} (h : CF a b) : XP a b := ⟨fun i h1 _ _ => h.1 i h1, h.2⟩
theorem MF.yp {a b : gM} (h : MF pF a b) : YP a b := ⟨fun i h1 _ => h.1 i h1, h.2⟩
theorem BF.yp {a b : gM} (h : BF a b) : YP a b := ⟨fun i h1 _ => h.1 i h1, fun i hi => h.2 i (fun w => hi (by unfold pF; omega))⟩
theorem NET.xy {μ ξ μ' ξ' : gM} (h : NET μ ξ) (x : XP μ μ') (y : YP ξ ξ') : NET μ' ξ' := h.fr (fun a h1 h2 => x.1 a (by omega) (by omega) (by omega)) (y.1 269 (by decide) (by decide))
def EVr (o r : Nat → Int32) (k : Nat) : Prop := (0 ≤ (r (5 * k)).toInt ∧ (r (5 * k)).toInt ≤ 9999) ∧ ((r (5 * k + 1) = 0 ∧ ∃ w : Nat, (w : Int) < (o 0).toInt ∧ r (5 * k + 2) = nI w) ∨ (r (5 * k + 1) = 1 ∧ ∃ w : Nat, (w : Int) < (o 0).toInt ∧ r (5 * k + 2) = nI w) ∨ r (5 * k + 1) = 2 ∨ r (5 * k + 1) = 3 ∨ r (5 * k + 1) = 4 ∨ r (5 * k + 1) = 5 ∨ (r (5 * k + 1) = 6 ∧ ∃ g w : Nat, mem o g w ∧ r (5 * k + 2) = nI w ∧ r (5 * k + 3) = nI g ∧ 1 ≤ (r (5 * k + 4)).toInt ∧ (r (5 * k + 4)).toInt ≤ 255))
theorem EVr.cg {o r o' r' : Nat → Int32} {k : Nat} (h : EVr o r k) (eo : o' = o) (er : ∀ j, j < 5 → r' (5 * k + j) = r (5 * k + j)) : EVr o' r' k := by
  subst eo
  unfold EVr at *
  have e0 := er 0 (by decide)
  rw [Nat.add_zero] at e0
  rw [e0, er 1 (by decide), er 2 (by decide), er 3 (by decide), er 4 (by decide)]
  exact h
def PD (c : Nat) (μ ξ : gM) : Prop := c ≤ 20 ∧ μ 32 0 = nI c ∧ (∀ i, i < 5 * c → μ 33 i = ξ 271 i) ∧ (∀ k, k < c → EVr (ξ 269) (ξ 271) k) ∧ ∀ k, k + 1 < c → (ξ 271 (5 * k)).toInt ≤ (ξ 271 (5 * (k + 1))).toInt
theorem PD.fr {c : Nat} {μ ξ μ' ξ' : gM} (h : PD c μ ξ) (a1 : μ' 32 0 = μ 32 0) (a2 : ∀ i, i < 5 * c → μ' 33 i = μ 33 i) (a3 : ξ' 269 = ξ 269) (a4 : ∀ i, i < 5 * c → ξ' 271 i = ξ 271 i) : PD c μ' ξ' := by
  obtain ⟨p1, p2, p3, p4, p5⟩ := h
  refine ⟨p1, a1.trans p2, fun i hi => by rw [a2 i hi, a4 i hi]; exact p3 i hi, fun k hk => (p4 k hk).cg a3 (fun j hj => a4 _ (by omega)), fun k hk => by rw [a4 _ (by omega), a4 _ (by omega)]; exact p5 k hk⟩
theorem PD.cm {c : Nat} {μ ξ μ' ξ' : gM} (h : PD c μ ξ) (x : CF μ μ') (y : MF pF ξ ξ') : PD c μ' ξ' := h.fr (by rw [x.1 32 (by decide)]) (fun i _ => by rw [x.1 33 (by decide)]) (y.1 269 (by decide)) (fun i _ => by rw [y.1 271 (by decide)])
def BP (b : Nat → Nat) (n c : Nat) (μ ξ : gM) (v : Int32) (μ' ξ' : gM) : Prop := XP μ μ' ∧ YP ξ ξ' ∧ ((v = 1 ∧ (∃ s' g', SIM b n s' g' μ' ξ') ∧ PD (c + 1) μ' ξ' ∧ ξ' 271 (5 * c) = ξ 271 (5 * c)) ∨ (v = 0 ∧ FLT b n μ' ξ'))
theorem BP.pre {b : Nat → Nat} {n c : Nat} {μ ξ μ1 ξ1 μ2 ξ2 : gM} {v : Int32} (x : CF μ μ1) (y : MF pF ξ ξ1) (h : BP b n c μ1 ξ1 v μ2 ξ2) : BP b n c μ ξ v μ2 ξ2 := by
  obtain ⟨h1, h2, h3⟩ := h
  rw [y.1 271 (by decide)] at h3
  exact ⟨x.xp.tr h1, y.yp.tr h2, h3⟩
theorem cAdd32 {c : Nat} {a1 a2 a3 a4 a5 : Int32} {μ : gM} (hc : c < 20) (h : μ 32 0 = nI c) : ∃ μ', fX5_add 32 a1 a2 a3 a4 a5 μ = some μ' ∧ (∀ a, a ≠ 32 → a ≠ 33 → μ' a = μ a) ∧ μ' 32 0 = nI (c + 1) ∧ (∀ i, i < 5 * c → μ' 33 i = μ 33 i) ∧ μ' 33 (5 * c) = a1 ∧ μ' 33 (5 * c + 1) = a2 ∧ μ' 33 (5 * c + 2) = a3 ∧ μ' 33 (5 * c + 3) = a4 ∧ μ' 33 (5 * c + 4) = a5 := by
  have e5 : nI c * (5 : Int32) = nI (5 * c) := by rw [show (5 : Int32) = nI 5 from rfl, pk_mul, Nat.mul_comm]
  have ad : ∀ j : Nat, nI (5 * c) + nI j = nI (5 * c + j) := fun j => nI_add _ _
  have lt : nI c < (20 : Int32) := Int32.lt_iff_toInt_lt.mpr (by rw [tN (by omega)]; show (c : Int) < 20; omega)
  have gi : ∀ j, j < 5 → gIn (nI (5 * c + j)) 100 = true := fun j hj => gI (by omega) (by decide)
  have g0 : gIn (nI (5 * c)) 100 = true := gI (by omega) (by decide)
  have ef : fX5_add 32 a1 a2 a3 a4 a5 μ = some (gUp (gUp (gUp (gUp (gUp (gUp μ 33 (5 * c) a1) 33 (5 * c + 1) a2) 33 (5 * c + 2) a3) 33 (5 * c + 3) a4) 33 (5 * c + 4) a5) 32 0 (nI (c + 1))) := by
    unfold fX5_add
    rw [h, if_pos lt, zLt_eq, e5, show (2 : Int32) = nI 2 from rfl, show (3 : Int32) = nI 3 from rfl, show (4 : Int32) = nI 4 from rfl, ad, ad, ad, show nI (5 * c) + (1 : Int32) = nI (5 * c + 1) from nI_1 _]
    unfold zCk
    rw [if_pos g0, zLt_eq, if_pos (gi 1 (by decide)), zLt_eq, if_pos (gi 2 (by decide)), zLt_eq, if_pos (gi 3 (by decide)), zLt_eq, if_pos (gi 4 (by decide)), zLt_eq, zLt_eq, nI_clamp (by omega), nI_clamp (by omega), nI_clamp (by omega), nI_clamp (by omega), nI_clamp (by omega)]
    rw [zUp_ne (a := 33) (b := 32) _ (by decide), zUp_ne (a := 33) (b := 32) _ (by decide), zUp_ne (a := 33) (b := 32) _ (by decide), zUp_ne (a := 33) (b := 32) _ (by decide), zUp_ne (a := 33) (b := 32) _ (by decide), h, show nI c + (1 : Int32) = nI (c + 1) from nI_1 c]
  refine ⟨_, ef, fun a h1 h2 => ?_, zUp_same _ _ _ _, fun i hi => ?_, ?_, ?_, ?_, ?_, ?_⟩
  · rw [zUp_ne _ h1, zUp_ne _ h2, zUp_ne _ h2, zUp_ne _ h2, zUp_ne _ h2, zUp_ne _ h2]
  · rw [zUp_ne _ (by decide), zUp_slot _ (by omega), zUp_slot _ (by omega), zUp_slot _ (by omega), zUp_slot _ (by omega), zUp_slot _ (by omega)]
  · rw [zUp_ne _ (by decide), zUp_slot _ (by omega), zUp_slot _ (by omega), zUp_slot _ (by omega), zUp_slot _ (by omega), zUp_same]
  · rw [zUp_ne _ (by decide), zUp_slot _ (by omega), zUp_slot _ (by omega), zUp_slot _ (by omega), zUp_same]
  · rw [zUp_ne _ (by decide), zUp_slot _ (by omega), zUp_slot _ (by omega), zUp_same]
  · rw [zUp_ne _ (by decide), zUp_slot _ (by omega), zUp_same]
  · rw [zUp_ne _ (by decide), zUp_same]
theorem mLay {c : Nat} {a2 a3 a4 a5 : Int32} {ξ : gM} (hc : c < 20) (hb : ξ 267 6 = 0) : ∃ ξ', fX12_laysEvent (nI c) a2 a3 a4 a5 ξ = some ξ' ∧ (∀ a, a ≠ 271 → ξ' a = ξ a) ∧ (∀ i, i ≤ 5 * c → ξ' 271 i = ξ 271 i) ∧ ξ' 271 (5 * c + 1) = a2 ∧ ξ' 271 (5 * c + 2) = a3 ∧ ξ' 271 (5 * c + 3) = a4 ∧ ξ' 271 (5 * c + 4) = a5 := by
  have e5 : (5 : Int32) * nI c = nI (5 * c) := by rw [show (5 : Int32) = nI 5 from rfl, pk_mul]
  have ad : ∀ j : Nat, nI (5 * c) + nI j = nI (5 * c + j) := fun j => nI_add _ _
  have gi : ∀ j, j < 5 → gIn (nI (5 * c + j)) 100 = true := fun j hj => gI (by omega) (by decide)
  have ef : fX12_laysEvent (nI c) a2 a3 a4 a5 ξ = some (gUp (gUp (gUp (gUp ξ 271 (5 * c + 1) a2) 271 (5 * c + 2) a3) 271 (5 * c + 3) a4) 271 (5 * c + 4) a5) := by
    unfold fX12_laysEvent
    rw [mFine1 hb, zBd_some, if_neg one_n0, e5, show (2 : Int32) = nI 2 from rfl, show (3 : Int32) = nI 3 from rfl, show (4 : Int32) = nI 4 from rfl, ad, ad, ad, show nI (5 * c) + (1 : Int32) = nI (5 * c + 1) from nI_1 _]
    unfold zCk
    rw [if_pos (gi 1 (by decide)), zLt_eq, if_pos (gi 2 (by decide)), zLt_eq, if_pos (gi 3 (by decide)), zLt_eq, if_pos (gi 4 (by decide)), zLt_eq, nI_clamp (by omega), nI_clamp (by omega), nI_clamp (by omega), nI_clamp (by omega)]
  refine ⟨_, ef, fun a h2 => ?_, fun i hi => ?_, ?_, ?_, ?_, ?_⟩
  · rw [zUp_ne _ h2, zUp_ne _ h2, zUp_ne _ h2, zUp_ne _ h2]
  · rw [zUp_slot _ (by omega), zUp_slot _ (by omega), zUp_slot _ (by omega), zUp_slot _ (by omega)]
  · rw [zUp_slot _ (by omega), zUp_slot _ (by omega), zUp_slot _ (by omega), zUp_same]
  · rw [zUp_slot _ (by omega), zUp_slot _ (by omega), zUp_same]
  · rw [zUp_slot _ (by omega), zUp_same]
  · rw [zUp_same]
theorem bLay {c : Nat} {a2 a3 a4 a5 : Int32} {ξ : gM} (hb : ξ 267 6 ≠ 0) : fX12_laysEvent (nI c) a2 a3 a4 a5 ξ = some ξ := by
  unfold fX12_laysEvent
  rw [mFine0 hb, zBd_some, if_pos rfl]
/-- one more event in both -/
def RDY (c : Nat) (at' : Int32) (ξ : gM) : Prop := ξ 271 (5 * c) = at' ∧ (0 ≤ at'.toInt ∧ at'.toInt ≤ 9999) ∧ (0 < c → (ξ 271 (5 * (c - 1))).toInt ≤ at'.toInt)
theorem RDY.cm {c : Nat} {at' : Int32} {ξ ξ' : gM} (h : RDY c at' ξ) (y : MF pF ξ ξ') : RDY c at' ξ' := by
  unfold RDY at *
  rw [y.1 271 (by decide)]
  exact h
theorem pLay {b : Nat → Nat} {n s c : Nat} {g : Int} {μ ξ : gM} {at' a2 a3 a4 a5 : Int32} (hc : c < 20) (h : SIM b n s g μ ξ) (pd : PD c μ ξ) (rd : RDY c at' ξ) (ev : ∀ r : Nat → Int32, r (5 * c) = at' → r (5 * c + 1) = a2 → r (5 * c + 2) = a3 → r (5 * c + 3) = a4 → r (5 * c + 4) = a5 → EVr (ξ 269) r c) : ∃ μ' ξ', fX5_add 32 at' a2 a3 a4 a5 μ = some μ' ∧ fX12_laysEvent (nI c) a2 a3 a4 a5 ξ = some ξ' ∧ XP μ μ' ∧ YP ξ ξ' ∧ μ' 1 = μ 1 ∧ SIM b n s g μ' ξ' ∧ ξ' 271 (5 * c) = ξ 271 (5 * c) ∧ PD (c + 1) μ' ξ' := by
  obtain ⟨p1, p2, p3, p4, p5⟩ := pd
  obtain ⟨r1, r2, r3⟩ := rd
  obtain ⟨μ', e1, f1, f2, f3, f4, f5, f6, f7, f8⟩ := cAdd32 (a1 := at') (a2 := a2) (a3 := a3) (a4 := a4) (a5 := a5) hc p2
  obtain ⟨ξ', e2, g1, g2, g5, g6, g7, g8⟩ := mLay (a2 := a2) (a3 := a3) (a4 := a4) (a5 := a5) hc h.2.2.2.2.2.2
  have g9 : ξ' 269 = ξ 269 := g1 269 (by decide)
  refine ⟨μ', ξ', e1, e2, ⟨fun a h1 h2 h3 => f1 a h2 h3, by rw [f1 1 (by decide) (by decide)]⟩, ⟨fun a h1 h2 => g1 a h2, fun i _ => by rw [g1 267 (by decide)]⟩, f1 1 (by decide) (by decide), h.fr (f1 1 (by decide) (by decide)) (f1 2 (by decide) (by decide)) (f1 3 (by decide) (by decide)) (g1 267 (by decide)) (g1 268 (by decide)), g2 _ (Nat.le_refl _), by omega, f2, fun i hi => ?_, fun k hk => ?_, fun k hk => ?_⟩
  · by_cases ci : i < 5 * c
    · rw [f3 i ci, g2 i (by omega)]; exact p3 i ci
    · have : i = 5 * c ∨ i = 5 * c + 1 ∨ i = 5 * c + 2 ∨ i = 5 * c + 3 ∨ i = 5 * c + 4 := by omega
      rcases this with rfl | rfl | rfl | rfl | rfl
      · rw [f4, g2 _ (Nat.le_refl _), r1]
      · rw [f5, g5]
      · rw [f6, g6]
      · rw [f7, g7]
      · rw [f8, g8]
  · by_cases ck : k = c
    · subst ck
      rw [g9]
      exact ev _ (by rw [g2 _ (Nat.le_refl _), r1]) g5 g6 g7 g8
    · exact (p4 k (by omega)).cg g9 (fun j hj => g2 _ (by omega))
  · by_cases ck : k + 1 = c
    · subst ck
      rw [g2 _ (by omega), g2 _ (Nat.le_refl _), r1]
      exact r3 (by omega)
    · rw [g2 _ (by omega), g2 _ (by omega)]
      exact p5 k (by omega)
/-! one event -/
def cEnd (o : Option (Int32 × gM)) : Option (Int32 × gM) := zBp o (fun x6 μ7 => (if x6 = 0 then (some ((0 : Int32), μ7)) else zBp (fX7_passStop μ7) (fun x8 μ9 => (if x8 = 0 then (some ((0 : Int32), μ9)) else some ((1 : Int32), μ9)))))
theorem n284_bad {ξ : gM} (hb : ξ 267 6 ≠ 0) : fX12_eventRead_n284 ξ = some ξ := by
  unfold fX12_eventRead_n284
  rw [bSign hb, zBd_some]
theorem pFinP {b : Nat → Nat} {n c : Nat} {μ ξ μ1 ξ1 : gM} {v : Int32} (bo : BP b n c μ ξ v μ1 ξ1) : ∃ w μ' ξ', cEnd (some (v, μ1)) = some (w, μ') ∧ fX12_eventRead_n284 ξ1 = some ξ' ∧ BP b n c μ ξ w μ' ξ' := by
  obtain ⟨x, y, bo⟩ := bo
  unfold cEnd fX12_eventRead_n284
  rw [zBp_some]
  rcases bo with ⟨rfl, ⟨s, g, h⟩, pd, kp⟩ | ⟨rfl, fl⟩
  · rw [if_neg one_n0]
    obtain ⟨w, μ', ξ', u1, u2, u3, u4, u5⟩ := pStop h
    rw [u1, u2, zBp_some, zBd_some]
    rcases u5 with ⟨rfl, h'⟩ | ⟨rfl, fl⟩
    · rw [if_neg one_n0]
      exact ⟨1, μ', ξ', rfl, rfl, x.tr u3.xp, y.tr u4.yp, Or.inl ⟨rfl, h', pd.cm u3 u4, by rw [u4.1 271 (by decide)]; exact kp⟩⟩
    · rw [if_pos rfl]
      exact ⟨0, μ', ξ', rfl, rfl, x.tr u3.xp, y.tr u4.yp, Or.inr ⟨rfl, fl⟩⟩
  · rw [if_pos rfl, bSign fl.2.2.1, zBd_some]
    exact ⟨0, μ1, ξ1, rfl, rfl, x, y, Or.inr ⟨rfl, fl⟩⟩
/-- a gate or a link by its name -/
theorem pKnEv {b : Nat → Nat} {n s c t : Nat} {g : Int} {μ ξ : gM} {at' what a : Int32} (ht : t < 3) (hat : a = nI t) (hc : c < 20) (h : SIM b n s g μ ξ) (nt : NET μ ξ) (pd : PD c μ ξ) (rd : RDY c at' ξ) (hw : ∀ (r : Nat → Int32) (w : Nat), (0 ≤ (r (5 * c)).toInt ∧ (r (5 * c)).toInt ≤ 9999) → r (5 * c + 1) = what → (w : Int) < (ξ 269 t).toInt → r (5 * c + 2) = nI w → EVr (ξ 269) r c) : ∃ v μ' ξ', cEnd (fX6_readEvent_n126 at' what a μ) = some (v, μ') ∧ zBp (fX12_oneRead 269 a ξ) (fun x33 μ34 => zBd (fX12_laysEvent (nI c) what x33 (-1 : Int32) (-1 : Int32) μ34) (fun μ35 => (fX12_eventRead_n284 μ35))) = some ξ' ∧ BP b n c μ ξ v μ' ξ' := by
  obtain ⟨x, y, μ1, ξ1, u1, u2, cf, mf, -, u3⟩ := pKnown (p := 4) (q := 269) (t := t) (a := a) ht (by rw [hat]; exact tN (by omega)) (by decide) h (nt.nt ht)
  unfold fX6_readEvent_n126 fX6_readEvent_n129
  rw [u1, u2, zBp_some, zBp_some]
  have pd1 := pd.cm cf mf
  have rd1 := rd.cm mf
  rcases u3 with ⟨rfl, ⟨k, rfl, kl⟩, s', g', sm⟩ | ⟨rfl, rfl, fl⟩
  · have k8 : k < 1000 := by
      have := (nt.nt ht).2.1.2
      omega
    obtain ⟨μ2, ξ2, a1, a2, x2, y2, -, sm2, kp2, pd2⟩ := pLay (a2 := what) (a3 := nI k) (a4 := -1) (a5 := -1) hc sm pd1 rd1 (fun r r0 r1 r2 r3 r4 => by
      rw [mf.1 269 (by decide)]
      exact hw r k (by rw [r0]; exact rd.2.1) r1 kl r2)
    rw [a1, a2, zBd_some, zBd_some, if_neg (nI_nm k8)]
    exact pFinP ⟨cf.xp.tr x2, mf.yp.tr y2, Or.inl ⟨rfl, ⟨s', g', sm2⟩, pd2, by rw [kp2, mf.1 271 (by decide)]⟩⟩
  · obtain ⟨μ2, a1, f1, -⟩ := cAdd32 (a1 := at') (a2 := what) (a3 := -1) (a4 := -1) (a5 := -1) hc pd1.2.1
    rw [a1, zBd_some, if_pos rfl, bLay fl.2.2.1, zBd_some]
    refine pFinP ⟨cf.xp.tr ⟨fun a _ h2 h3 => f1 a h2 h3, by rw [f1 1 (by decide) (by decide)]⟩, mf.yp, Or.inr ⟨rfl, ?_⟩⟩
    unfold FLT at *
    rw [f1 1 (by decide) (by decide)]
    exact fl
