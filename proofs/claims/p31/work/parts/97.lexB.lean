/-! texts: as the reference reads them -/
def MT (b : Nat → Nat) (n : Nat) (ξ : gM) : Prop := (ξ 267 3).toInt = n ∧ n ≤ 1500 ∧ ∀ i, i < n → (b i < 128 → (ξ 268 i).toInt = b i) ∧ (128 ≤ b i → (ξ 268 i).toInt < 0)
/-- all but these places of the reference's own cell stay -/
def MF (P : Nat → Prop) (ξ ζ : gM) : Prop := (∀ a, a ≠ 267 → ζ a = ξ a) ∧ ∀ i, ¬ P i → ζ 267 i = ξ 267 i
theorem MF.rf {P : Nat → Prop} (ξ : gM) : MF P ξ ξ := ⟨fun _ _ => rfl, fun _ _ => rfl⟩
theorem MF.tr {P Q R : Nat → Prop} {ξ ζ χ : gM} (h : MF P ξ ζ) (g : MF Q ζ χ) (hp : ∀ i, P i → R i) (hq : ∀ i, Q i → R i) : MF R ξ χ := ⟨fun a ha => (g.1 a ha).trans (h.1 a ha), fun i hi => (g.2 i (fun w => hi (hq i w))).trans (h.2 i (fun w => hi (hp i w)))⟩
theorem MF.up {P : Nat → Prop} (ξ : gM) {i : Nat} {v : Int32} (hi : P i) : MF P ξ (gUp ξ 267 i v) := ⟨fun a ha => zUp_ne _ ha, fun j hj => zUp_slot _ (fun e => hj (by rw [e]; exact hi))⟩
theorem MT.mf {b : Nat → Nat} {n : Nat} {P : Nat → Prop} {ξ ζ : gM} (h : MT b n ξ) (g : MF P ξ ζ) (h3 : ¬ P 3) : MT b n ζ := ⟨by rw [g.2 3 h3]; exact h.1, h.2.1, fun i hi => by rw [g.1 268 (by decide)]; exact h.2.2 i hi⟩
def p4 (i : Nat) : Prop := i = 4
def pW (i : Nat) : Prop := i = 4 ∨ i = 10 ∨ i = 11
theorem mNext_l0 {b : Nat → Nat} {n : Nat} : ∀ (m p : Nat) (ξ : gM), MT b n ξ → (ξ 267 4).toInt = p → p ≤ n → n < p + m → zH (fX12_next_l0 m ξ) (fun r => ∃ s, Skp b n p s ∧ r.1.toInt = s ∧ (r.2 267 4).toInt = s ∧ MF p4 ξ r.2) := by
  intro m
  induction m with
  | zero =>
    intro p ξ h ha hn gm
    exact absurd gm (by omega)
  | succ m ih =>
    intro p ξ h ha hn gm
    have hn5 := h.2.1
    rw [fX12_next_l0]
    have stop : (p < n → ¬ isW (b p)) → zH (some ((ξ 267 4), ξ)) (fun r => ∃ s, Skp b n p s ∧ r.1.toInt = s ∧ (r.2 267 4).toInt = s ∧ MF p4 ξ r.2) := fun w => zH_some ⟨p, ⟨Nat.le_refl _, hn, fun i a c => absurd c (by omega), w⟩, ha, ha, MF.rf _⟩
    refine zH_lec h.1 ha (fun c => stop (fun w => absurd w (by omega))) (fun c => ?_)
    have hb := h.2.2 p (by omega)
    have go : isW (b p) → zH (fX12_next_n39 (fX12_next_l0 m) ξ) (fun r => ∃ s, Skp b n p s ∧ r.1.toInt = s ∧ (r.2 267 4).toInt = s ∧ MF p4 ξ r.2) := fun w => by
      unfold fX12_next_n39
      refine zH_lt (fun μ2 e2 => ?_)
      have g2 : MF p4 ξ μ2 := by rw [e2]; exact MF.up _ rfl
      have q2 : (μ2 267 4).toInt = ((p + 1 : Nat) : Int) := by rw [e2, zUp_same, iA ha (iL (1) (1) rfl) (by omega) (by omega)]; omega
      refine zH_mono (ih (p + 1) μ2 (h.mf g2 (by unfold p4; omega)) q2 (by omega) (by omega)) (fun r q => ?_)
      obtain ⟨s, ⟨k1, k2, k3, k4⟩, k5, k6, k7⟩ := q
      refine ⟨s, ⟨by omega, k2, fun i a c => ?_, k4⟩, k5, k6, g2.tr k7 (fun _ w => w) (fun _ w => w)⟩
      rcases Nat.lt_or_ge p i with v | v
      · exact k3 i v c
      · rw [show i = p by omega]; exact w
    have nw : ∀ x : Nat, x < 128 → (ξ 268 p).toInt = x → b p = x := fun x hx w => by
      rcases Nat.lt_or_ge (b p) 128 with v | v
      · have := hb.1 v; omega
      · have := hb.2 v; omega
    have wn : isW (b p) → (ξ 268 p).toInt = 10 ∨ (ξ 268 p).toInt = 32 := fun w => by
      unfold isW at w
      have := hb.1 (by omega)
      omega
    refine zH_ck (zIn ha (by omega) (by omega)) ?_
    rw [cl_of ha]
    refine zH_eqc (rfl : (ξ 268 p).toInt = _) (iL (32) (32) rfl) (fun _ w => go (Or.inr (nw 32 (by decide) w))) (fun _ w => ?_)
    refine zH_ck (zIn ha (by omega) (by omega)) ?_
    refine zH_eqc (rfl : (ξ 268 p).toInt = _) (iL (10) (10) rfl) (fun _ w2 => go (Or.inl (nw 10 (by decide) w2))) (fun _ w2 => stop (fun _ v => by have := wn v; omega))
theorem mNext {b : Nat → Nat} {n p : Nat} {ξ : gM} (h : MT b n ξ) (ha : (ξ 267 4).toInt = p) (hn : p ≤ n) : zH (fX12_next ξ) (fun r => ∃ s, Skp b n p s ∧ r.1.toInt = s ∧ (r.2 267 4).toInt = s ∧ MF p4 ξ r.2) := by
  have hn5 := h.2.1
  unfold fX12_next
  exact mNext_l0 100000 p ξ h ha hn (by omega)
theorem mChar {b : Nat → Nat} {n k lo hi : Nat} {ξ : gM} (h : MT b n ξ) (hk : k < n) (hh : hi < 128) : ((lo : Int) ≤ (ξ 268 k).toInt ∧ (ξ 268 k).toInt ≤ hi) ↔ (lo ≤ b k ∧ b k ≤ hi) := by
  have hb := h.2.2 k hk
  rcases Nat.lt_or_ge (b k) 128 with v | v
  · have := hb.1 v; omega
  · have := hb.2 v; omega
theorem mLetter {b : Nat → Nat} {n k : Nat} {a1 : Int32} {ξ : gM} (h : MT b n ξ) (ha : a1.toInt = k) : zH (fX12_isLetter a1 ξ) (fun v => (v = 1 ∧ k < n ∧ isL (b k)) ∨ (v = 0 ∧ ¬ (k < n ∧ isL (b k)))) := by
  have hn5 := h.2.1
  unfold fX12_isLetter
  refine zH_lec h.1 ha (fun c => zH_some (Or.inr ⟨rfl, fun w => absurd w.1 (by omega)⟩)) (fun c => ?_)
  refine zH_ck (zIn ha (by omega) (by omega)) ?_
  rw [cl_of ha]
  have mc := mChar (lo := 97) (hi := 122) h (show k < n by omega) (by decide)
  refine zH_bd (tX12_isIn (i64 (rfl : (ξ 268 k).toInt = _)) (iLL (97) (97) rfl) (iLL (122) (122) rfl)) (fun x2 p2 => ?_)
  refine zH_eqc (rfl : x2.toInt = _) (iL (0) (0) rfl) (fun _ w => zH_some (Or.inr ⟨rfl, fun v => ?_⟩)) (fun _ w => zH_some (Or.inl ⟨rfl, by omega, ?_⟩))
  · have q := p2.2.2 w
    have := mc.mpr v.2
    omega
  · have q := p2.2.1 (by have := p2.1; omega)
    exact mc.mp q
theorem mDigit {b : Nat → Nat} {n k : Nat} {a1 : Int32} {ξ : gM} (h : MT b n ξ) (ha : a1.toInt = k) : zH (fX12_isDigit a1 ξ) (fun v => (v = 1 ∧ k < n ∧ isD (b k)) ∨ (v = 0 ∧ ¬ (k < n ∧ isD (b k)))) := by
  have hn5 := h.2.1
  unfold fX12_isDigit
  refine zH_lec h.1 ha (fun c => zH_some (Or.inr ⟨rfl, fun w => absurd w.1 (by omega)⟩)) (fun c => ?_)
  refine zH_ck (zIn ha (by omega) (by omega)) ?_
  rw [cl_of ha]
  have mc := mChar (lo := 48) (hi := 57) h (show k < n by omega) (by decide)
  refine zH_bd (tX12_isIn (i64 (rfl : (ξ 268 k).toInt = _)) (iLL (48) (48) rfl) (iLL (57) (57) rfl)) (fun x2 p2 => ?_)
  refine zH_eqc (rfl : x2.toInt = _) (iL (0) (0) rfl) (fun _ w => zH_some (Or.inr ⟨rfl, fun v => ?_⟩)) (fun _ w => zH_some (Or.inl ⟨rfl, by omega, ?_⟩))
  · have q := p2.2.2 w
    have := mc.mpr v.2
    omega
  · have q := p2.2.1 (by have := p2.1; omega)
    exact mc.mp q
def WR (b : Nat → Nat) (n s : Nat) (ξ : gM) (r : Int32 × gM) : Prop := ∃ e, Rn isL b n s e ∧ (r.2 267 11).toInt = ((e - s : Nat) : Int) ∧ (e ≤ s + 6 → r.1 = 1 ∧ r.2 267 10 = nI (eM b s (e - s))) ∧ (s + 6 < e → r.1 = 0) ∧ MF pW ξ r.2 ∧ r.2 267 4 = ξ 267 4
theorem mWord_l33 {b : Nat → Nat} {n s : Nat} : ∀ (m l : Nat) (y1 : Int32) (ξ : gM), MT b n ξ → y1.toInt = s → (ξ 267 11).toInt = l → s + l ≤ n → wL b s l → (l ≤ 6 → ξ 267 10 = nI (eM b s l)) → n < s + l + m → zH (fX12_seesWord_l33 m y1 ξ) (WR b n s ξ) := by
  intro m
  induction m with
  | zero =>
    intro l y1 ξ h hs ha hn hw hv gm
    exact absurd gm (by omega)
  | succ m ih =>
    intro l y1 ξ h hs ha hn hw hv gm
    have hn5 := h.2.1
    rw [fX12_seesWord_l33]
    have q := iA hs ha (by omega) (by omega)
    have qk : (y1 + ξ 267 11).toInt = ((s + l : Nat) : Int) := q.trans (by omega)
    refine zH_bd (mLetter h qk) (fun x6 p6 => ?_)
    refine zH_ite (fun c => ?_) (fun c => ?_)
    · have rn : Rn isL b n s (s + l) := ⟨by omega, hn, fun i a d => hw i a d, fun w v => by
        rcases p6 with p | p
        · rw [p.1] at c; exact absurd c (by decide)
        · exact p.2 ⟨w, v⟩⟩
      refine zH_lec (iL (7) (7) rfl) ha (fun c7 => zH_some ⟨s + l, rn, ?_, fun w => absurd w (by omega), fun _ => rfl, MF.rf _, rfl⟩) (fun c7 => zH_some ⟨s + l, rn, ?_, fun _ => ⟨rfl, ?_⟩, fun w => absurd w (by omega), MF.rf _, rfl⟩)
      · rw [show s + l - s = l by omega]; exact ha
      · rw [show s + l - s = l by omega]; exact ha
      · rw [show s + l - s = l by omega]; exact hv (by omega)
    · have hl : s + l < n ∧ isL (b (s + l)) := by
        rcases p6 with p | p
        · exact p.2
        · rw [p.1] at c; exact absurd rfl c
      have hw1 : wL b s (l + 1) := fun i a d => by
        rcases Nat.lt_or_ge i (s + l) with w | w
        · exact hw i a w
        · rw [show i = s + l by omega]; exact hl.2
      have step : ∀ z : Int32, (l + 1 ≤ 6 → z = nI (eM b s (l + 1))) → zH (fX12_seesWord_n82 (fX12_seesWord_l33 m) y1 z ξ) (WR b n s ξ) := fun z hz => by
        unfold fX12_seesWord_n82
        refine zH_lt (fun μ8 e8 => ?_)
        refine zH_lt (fun μ9 e9 => ?_)
        have g9 : MF pW ξ μ9 := by
          rw [e9, e8]
          exact (MF.up _ (Or.inr (Or.inl rfl))).tr (MF.up _ (Or.inr (Or.inr rfl))) (fun _ w => w) (fun _ w => w)
        have a8 : (μ8 267 11).toInt = l := by rw [e8, zUp_slot _ (by decide)]; exact ha
        have a9 : (μ9 267 11).toInt = ((l + 1 : Nat) : Int) := by rw [e9, zUp_same, iA a8 (iL (1) (1) rfl) (by omega) (by omega)]; omega
        refine zH_mono (ih (l + 1) y1 μ9 (h.mf g9 (by unfold pW; omega)) hs a9 (by omega) hw1 (fun w => by rw [e9, zUp_slot _ (by decide), e8, zUp_same]; exact hz w) (by omega)) (fun r p => ?_)
        obtain ⟨e, k1, k2, k3, k4, k5, k6⟩ := p
        exact ⟨e, k1, k2, k3, k4, g9.tr k5 (fun _ w => w) (fun _ w => w), by rw [k6, e9, zUp_slot _ (by decide), e8, zUp_slot _ (by decide)]⟩
      refine zH_lec (iL (6) (6) rfl) ha (fun c6 => step _ (fun w => absurd w (by omega))) (fun c6 => ?_)
      refine zH_ck (zIn qk (by omega) (by omega)) ?_
      rw [cl_of qk]
      refine step _ (fun _ => ?_)
      have hv0 := hv (by omega)
      have ev := eM_lt l s hw
      have pv := p32 (l := l) (by omega)
      have pv5 : 32 ^ l ≤ 32 ^ 5 := Nat.pow_le_pow_right (by decide) (by omega)
      have h25 : (32 : Nat) ^ 5 = 33554432 := by decide
      have tv : (ξ 267 10).toInt = ((eM b s l : Nat) : Int) := by rw [hv0]; exact nI_toInt (by omega)
      have hb := (h.2.2 (s + l) (by omega)).1 (by have := hl.2; unfold isL at this; omega)
      have hl2 := hl.2
      unfold isL at hl2
      refine nI_of' ?_
      rw [iS (iA (iM (iL (32) (32) rfl) tv (by omega) (by omega)) hb (by omega) (by omega)) (iL (96) (96) rfl) (by omega) (by omega), eM]
      omega
/-- a word stands there -/
def WAt (b : Nat → Nat) (n s : Nat) (g : Int) (e : Nat) : Prop := s < n ∧ isL (b s) ∧ Rn isL b n s e ∧ e ≤ s + 6 ∧ (s : Int) ≠ g
def SW (b : Nat → Nat) (n p : Nat) (ξ : gM) (r : Int32 × gM) : Prop := ∃ s, Skp b n p s ∧ (r.2 267 4).toInt = s ∧ MF pW ξ r.2 ∧ ((∃ e, WAt b n s (ξ 267 5).toInt e ∧ r.1 = 1 ∧ (r.2 267 11).toInt = ((e - s : Nat) : Int) ∧ r.2 267 10 = nI (eM b s (e - s))) ∨ ((∀ e, ¬ WAt b n s (ξ 267 5).toInt e) ∧ r.1 = 0))
theorem mSees {b : Nat → Nat} {n p : Nat} {ξ : gM} (h : MT b n ξ) (ha : (ξ 267 4).toInt = p) (hn : p ≤ n) : zH (fX12_seesWord ξ) (SW b n p ξ) := by
  have hn5 := h.2.1
  unfold fX12_seesWord
  refine zH_bp (mNext h ha hn) (fun x1 μ2 p2 => ?_)
  obtain ⟨s, k1, k2, k3, k4⟩ := p2
  have k2 : x1.toInt = s := k2
  have k3 : (μ2 267 4).toInt = s := k3
  have k4 : MF p4 ξ μ2 := k4
  refine zH_lt (fun μ3 e3 => ?_)
  refine zH_lt (fun μ4 e4 => ?_)
  have g4 : MF pW ξ μ4 := by
    refine k4.tr (Q := pW) ?_ (fun i w => Or.inl w) (fun _ w => w)
    rw [e4, e3]
    exact (MF.up _ (Or.inr (Or.inr rfl))).tr (MF.up _ (Or.inr (Or.inl rfl))) (fun _ w => w) (fun _ w => w)
  have h4 := h.mf g4 (by unfold pW; omega)
  have a4 : (μ4 267 4).toInt = s := by rw [e4, zUp_slot _ (by decide), e3, zUp_slot _ (by decide)]; exact k3
  have l4 : (μ4 267 11).toInt = 0 := by rw [e4, zUp_slot _ (by decide), e3, zUp_same]; rfl
  have v4 : μ4 267 10 = nI 0 := by rw [e4, zUp_same]; rfl
  have e5 : μ4 267 5 = ξ 267 5 := g4.2 5 (by unfold pW; omega)
  refine zH_bd (mLetter h4 k2) (fun x5 p5 => ?_)
  refine zH_ite (fun c => ?_) (fun c => ?_)
  · refine zH_some ⟨s, k1, a4, g4, Or.inr ⟨fun e w => ?_, rfl⟩⟩
    rcases p5 with p | p
    · rw [p.1] at c; exact absurd c (by decide)
    · exact p.2 ⟨w.1, w.2.1⟩
  · have hl : s < n ∧ isL (b s) := by
      rcases p5 with p | p
      · exact p.2
      · rw [p.1] at c; exact absurd rfl c
    refine zH_eqc k2 (congrArg Int32.toInt e5) (fun _ c2 => ?_) (fun _ c2 => ?_)
    · exact zH_some ⟨s, k1, a4, g4, Or.inr ⟨fun e w => w.2.2.2.2 c2, rfl⟩⟩
    · refine zH_mono (mWord_l33 100000 0 x1 μ4 h4 k2 l4 (by omega) (fun i a d => absurd d (by omega)) (fun _ => v4) (by omega)) (fun r p => ?_)
      obtain ⟨e, r1, r2, r3, r4, r5, r6⟩ := p
      refine ⟨s, k1, by rw [r6]; exact a4, g4.tr r5 (fun _ w => w) (fun _ w => w), ?_⟩
      rcases Nat.lt_or_ge (s + 6) e with w | w
      · exact Or.inr ⟨fun f v => by have := Rn.uniq r1 v.2.2.1; have := v.2.2.2.1; omega, r4 w⟩
      · exact Or.inl ⟨e, ⟨hl.1, hl.2, r1, w, c2⟩, (r3 w).1, r2, (r3 w).2⟩
