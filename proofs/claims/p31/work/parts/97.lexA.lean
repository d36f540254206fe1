/-! texts: what stands on the tape, as the class reads it -/
def isL (c : Nat) : Prop := 97 ≤ c ∧ c ≤ 122
def isD (c : Nat) : Prop := 48 ≤ c ∧ c ≤ 57
def isW (c : Nat) : Prop := c = 10 ∨ c = 32
def Skp (b : Nat → Nat) (n p s : Nat) : Prop := p ≤ s ∧ s ≤ n ∧ (∀ i, p ≤ i → i < s → isW (b i)) ∧ (s < n → ¬ isW (b s))
def Rn (P : Nat → Prop) (b : Nat → Nat) (n s e : Nat) : Prop := s ≤ e ∧ e ≤ n ∧ (∀ i, s ≤ i → i < e → P (b i)) ∧ (e < n → ¬ P (b e))
theorem Skp.uniq {b : Nat → Nat} {n p s t : Nat} (h : Skp b n p s) (g : Skp b n p t) : s = t := by
  obtain ⟨h1, h2, h3, h4⟩ := h
  obtain ⟨g1, g2, g3, g4⟩ := g
  rcases Nat.lt_trichotomy s t with w | w | w
  · exact absurd (g3 s h1 w) (h4 (by omega))
  · exact w
  · exact absurd (h3 t g1 w) (g4 (by omega))
theorem Rn.uniq {P : Nat → Prop} {b : Nat → Nat} {n s e f : Nat} (h : Rn P b n s e) (g : Rn P b n s f) : e = f := by
  obtain ⟨h1, h2, h3, h4⟩ := h
  obtain ⟨g1, g2, g3, g4⟩ := g
  rcases Nat.lt_trichotomy e f with w | w | w
  · exact absurd (g3 e h1 w) (h4 (by omega))
  · exact w
  · exact absurd (h3 f g1 w) (g4 (by omega))
theorem Rn.pos {P : Nat → Prop} {b : Nat → Nat} {n s e : Nat} (h : Rn P b n s e) (hs : s < n) (hp : P (b s)) : s < e := by
  rcases Nat.lt_or_ge s e with w | w
  · exact w
  · have : e = s := by have := h.1; omega
    subst this
    exact absurd hp (h.2.2.2 hs)
/-- a word's number: the class's (its first letter lowest), the reference's (its first letter highest); a number -/
def eC (b : Nat → Nat) : Nat → Nat → Nat
  | _, 0 => 0
  | s, l + 1 => (b s - 96) + 32 * eC b (s + 1) l
def eM (b : Nat → Nat) (s : Nat) : Nat → Nat
  | 0 => 0
  | l + 1 => 32 * eM b s l + (b (s + l) - 96)
def eN (b : Nat → Nat) (s : Nat) : Nat → Nat
  | 0 => 0
  | l + 1 => 10 * eN b s l + (b (s + l) - 48)
theorem eC_snoc (b : Nat → Nat) : ∀ (l s : Nat), eC b s (l + 1) = eC b s l + (b (s + l) - 96) * 32 ^ l
  | 0, s => by simp [eC]
  | l + 1, s => by
    rw [eC, eC_snoc b l (s + 1), eC, Nat.pow_succ, show s + 1 + l = s + (l + 1) by omega]
    generalize (b (s + (l + 1)) - 96) = d
    generalize 32 ^ l = p
    rw [Nat.mul_add, ← Nat.add_assoc, show d * (p * 32) = 32 * (d * p) by rw [← Nat.mul_assoc, Nat.mul_comm]]
def wL (b : Nat → Nat) (s l : Nat) : Prop := ∀ i, s ≤ i → i < s + l → isL (b i)
theorem eC_lt {b : Nat → Nat} : ∀ (l s : Nat), wL b s l → eC b s l < 32 ^ l
  | 0, s, _ => by simp [eC]
  | l + 1, s, h => by
    have h0 := h s (Nat.le_refl _) (by omega)
    have h1 := eC_lt l (s + 1) (fun i a c => h i (by omega) (by omega))
    rw [eC, Nat.pow_succ]
    unfold isL at h0
    omega
theorem eM_lt {b : Nat → Nat} : ∀ (l s : Nat), wL b s l → eM b s l < 32 ^ l
  | 0, s, _ => by simp [eM]
  | l + 1, s, h => by
    have h0 := h (s + l) (by omega) (by omega)
    have h1 := eM_lt l s (fun i a c => h i a (by omega))
    rw [eM, Nat.pow_succ]
    unfold isL at h0
    omega
theorem eC_inj {b c : Nat → Nat} : ∀ (l m s t : Nat), wL b s l → wL c t m → eC b s l = eC c t m → l = m ∧ ∀ i, i < l → b (s + i) = c (t + i)
  | 0, 0, _, _, _, _, _ => ⟨rfl, fun i hi => absurd hi (by omega)⟩
  | 0, m + 1, s, t, _, g, e => by
    have g0 := g t (Nat.le_refl _) (by omega)
    rw [eC, eC] at e
    unfold isL at g0
    omega
  | l + 1, 0, s, t, h, _, e => by
    have h0 := h s (Nat.le_refl _) (by omega)
    rw [eC, eC] at e
    unfold isL at h0
    omega
  | l + 1, m + 1, s, t, h, g, e => by
    have h0 := h s (Nat.le_refl _) (by omega)
    have g0 := g t (Nat.le_refl _) (by omega)
    rw [eC, eC] at e
    unfold isL at h0 g0
    have e1 : b s = c t := by omega
    have e2 : eC b (s + 1) l = eC c (t + 1) m := by omega
    obtain ⟨q1, q2⟩ := eC_inj l m (s + 1) (t + 1) (fun i a d => h i (by omega) (by omega)) (fun i a d => g i (by omega) (by omega)) e2
    refine ⟨by omega, fun i hi => ?_⟩
    match i with
    | 0 => exact e1
    | i + 1 =>
      have := q2 i (by omega)
      rw [show s + (i + 1) = s + 1 + i by omega, show t + (i + 1) = t + 1 + i by omega]
      exact this
theorem eM_inj {b c : Nat → Nat} : ∀ (l m s t : Nat), wL b s l → wL c t m → eM b s l = eM c t m → l = m ∧ ∀ i, i < l → b (s + i) = c (t + i)
  | 0, 0, _, _, _, _, _ => ⟨rfl, fun i hi => absurd hi (by omega)⟩
  | 0, m + 1, s, t, _, g, e => by
    have g0 := g (t + m) (by omega) (by omega)
    rw [eM, eM] at e
    unfold isL at g0
    omega
  | l + 1, 0, s, t, h, _, e => by
    have h0 := h (s + l) (by omega) (by omega)
    rw [eM, eM] at e
    unfold isL at h0
    omega
  | l + 1, m + 1, s, t, h, g, e => by
    have h0 := h (s + l) (by omega) (by omega)
    have g0 := g (t + m) (by omega) (by omega)
    rw [eM, eM] at e
    unfold isL at h0 g0
    have e1 : b (s + l) = c (t + m) := by omega
    have e2 : eM b s l = eM c t m := by omega
    obtain ⟨q1, q2⟩ := eM_inj l m s t (fun i a d => h i a (by omega)) (fun i a d => g i a (by omega)) e2
    subst q1
    refine ⟨rfl, fun i hi => ?_⟩
    rcases Nat.lt_or_ge i l with w | w
    · exact q2 i w
    · have : i = l := by omega
      subst this
      exact e1
theorem eC_congr {b c : Nat → Nat} : ∀ (l s t : Nat), (∀ i, i < l → b (s + i) = c (t + i)) → eC b s l = eC c t l
  | 0, _, _, _ => rfl
  | l + 1, s, t, h => by
    rw [eC, eC, eC_congr l (s + 1) (t + 1) (fun i hi => by have := h (i + 1) (by omega); rw [show s + 1 + i = s + (i + 1) by omega, show t + 1 + i = t + (i + 1) by omega]; exact this), show b s = c t from h 0 (by omega)]
theorem eM_congr {b c : Nat → Nat} : ∀ (l s t : Nat), (∀ i, i < l → b (s + i) = c (t + i)) → eM b s l = eM c t l
  | 0, _, _, _ => rfl
  | l + 1, s, t, h => by
    rw [eM, eM, eM_congr l s t (fun i hi => h i (by omega)), show b (s + l) = c (t + l) from h l (by omega)]
/-- alike in one spelling, alike in the other -/
theorem enc_iff {b c : Nat → Nat} {l m s t : Nat} (h : wL b s l) (g : wL c t m) : eC b s l = eC c t m ↔ eM b s l = eM c t m := by
  constructor
  · intro e
    obtain ⟨rfl, q⟩ := eC_inj l m s t h g e
    exact eM_congr l s t q
  · intro e
    obtain ⟨rfl, q⟩ := eM_inj l m s t h g e
    exact eC_congr l s t q
theorem p32 {l : Nat} (h : l ≤ 6) : 32 ^ l ≤ 2 ^ 30 := by
  have : l = 0 ∨ l = 1 ∨ l = 2 ∨ l = 3 ∨ l = 4 ∨ l = 5 ∨ l = 6 := by omega
  rcases this with rfl | rfl | rfl | rfl | rfl | rfl | rfl <;> decide
theorem fa_or (a b : Nat) : nI a ||| nI b = nI (a ||| b) := by
  apply Int32.toBitVec_inj.1
  show BitVec.ofNat 32 a ||| BitVec.ofNat 32 b = BitVec.ofNat 32 (a ||| b)
  apply BitVec.eq_of_getLsbD_eq
  intro i hi
  simp [hi]
theorem fa_or_sum {a k : Nat} (b : Nat) (h : a < 2 ^ k) : nI (2 ^ k * b) ||| nI a = nI (2 ^ k * b + a) := by rw [fa_or, Nat.two_pow_add_eq_or_of_lt h]
theorem or_comm32 (x y : Int32) : x ||| y = y ||| x := by
  apply Int32.toBitVec_inj.1
  rw [Int32.toBitVec_or, Int32.toBitVec_or, BitVec.or_comm]
/-- one letter more -/
theorem add_letter {v d l : Nat} {x c sh : Int32} (hx : x = nI v) (hv : v < 32 ^ l) (hc : c = nI d) (hd : d < 32) (hl : l < 6) (hs : sh.toInt = 5 * l) : x ||| (c <<< (sh &&& 31)) = nI (v + d * 32 ^ l) := by
  subst hx hc
  have hp : (32 : Nat) ^ l = 2 ^ (5 * l) := by rw [Nat.pow_mul]
  have hsm : ((sh &&& 31).toBitVec.smod 32).toNat = 5 * l := by
    have : l = 0 ∨ l = 1 ∨ l = 2 ∨ l = 3 ∨ l = 4 ∨ l = 5 := by omega
    rcases this with rfl | rfl | rfl | rfl | rfl | rfl
    all_goals
      first
      | rw [show sh = 0 from Int32.toInt_inj.mp hs]; rfl
      | rw [show sh = 5 from Int32.toInt_inj.mp hs]; rfl
      | rw [show sh = 10 from Int32.toInt_inj.mp hs]; rfl
      | rw [show sh = 15 from Int32.toInt_inj.mp hs]; rfl
      | rw [show sh = 20 from Int32.toInt_inj.mp hs]; rfl
      | rw [show sh = 25 from Int32.toInt_inj.mp hs]; rfl
  have hb : d * 2 ^ (5 * l) < 2 ^ 32 := by
    have h1 : (2 : Nat) ^ (5 * l) ≤ 2 ^ 25 := Nat.pow_le_pow_right (by decide) (by omega)
    have h2 : d * 2 ^ (5 * l) ≤ 31 * 2 ^ 25 := Nat.mul_le_mul (by omega) h1
    have : 31 * 2 ^ 25 < 2 ^ 32 := by decide
    omega
  rw [pk_shlN (sh &&& 31) (5 * l) hsm hb, or_comm32, Nat.mul_comm d, fa_or_sum d (by rw [← hp]; exact hv), hp, Nat.add_comm, Nat.mul_comm]
/-- the class's tape -/
def CT (b : Nat → Nat) (n : Nat) (μ : gM) : Prop := (μ 1 2).toInt = n ∧ n ≤ 1500 ∧ ∀ i, i < n → (μ 2 i).toInt = b i ∧ b i ≤ 255
def LF (μ ν : gM) : Prop := (∀ a, a ≠ 1 → ν a = μ a) ∧ ν 1 2 = μ 1 2 ∧ ν 1 7 = μ 1 7 ∧ ν 1 8 = μ 1 8
theorem LF.rf (μ : gM) : LF μ μ := ⟨fun _ _ => rfl, rfl, rfl, rfl⟩
theorem LF.tr {μ ν ξ : gM} (h : LF μ ν) (g : LF ν ξ) : LF μ ξ := ⟨fun a ha => (g.1 a ha).trans (h.1 a ha), g.2.1.trans h.2.1, g.2.2.1.trans h.2.2.1, g.2.2.2.trans h.2.2.2⟩
theorem LF.up (μ : gM) {i : Nat} {v : Int32} (hi : 3 ≤ i) (h6 : i ≤ 6) : LF μ (gUp μ 1 i v) := ⟨fun a ha => zUp_ne _ ha, zUp_slot _ (by omega), zUp_slot _ (by omega), zUp_slot _ (by omega)⟩
theorem CT.lf {b : Nat → Nat} {n : Nat} {μ ν : gM} (h : CT b n μ) (g : LF μ ν) : CT b n ν := ⟨by rw [g.2.1]; exact h.1, h.2.1, fun i hi => by rw [g.1 2 (by decide)]; exact h.2.2 i hi⟩
theorem cl_of {e : Int32} {p : Nat} (h : e.toInt = p) : e.toNatClampNeg = p := by
  have := zCl h (by omega)
  omega
theorem nI_of' {x : Int32} {m : Nat} (h : x.toInt = m) : x = nI m := by
  have b := i32b x
  exact Int32.toInt_inj.mp (by rw [h]; exact (nI_toInt (by omega)).symm)
def WQ (b : Nat → Nat) (n s : Nat) (μ ν : gM) : Prop := ∃ e, Rn isL b n s e ∧ (ν 1 3).toInt = e ∧ (ν 1 5).toInt = s ∧ (e ≤ s + 6 → ν 1 4 = 1 ∧ ν 1 6 = nI (eC b s (e - s))) ∧ (s + 6 < e → ν 1 4 = 4) ∧ LF μ ν
theorem cw106 {b : Nat → Nat} {n s l : Nat} {μ : gM} (h : CT b n μ) (hs : (μ 1 5).toInt = s) (ha : (μ 1 3).toInt = ((s + l : Nat) : Int)) (hn : s + l ≤ n) (hw : wL b s l) (hv : l ≤ 6 → μ 1 6 = nI (eC b s l)) (hx : s + l < n → ¬ isL (b (s + l))) : zH (fX7_readWord_n106 μ) (WQ b n s μ) := by
  unfold fX7_readWord_n106
  have hn5 := h.2.1
  have q := iS ha hs (by omega) (by omega)
  have rn : Rn isL b n s (s + l) := ⟨by omega, hn, fun i a c => hw i a c, hx⟩
  refine zH_ltc (iL (6) (6) rfl) q (fun c => ?_) (fun c => ?_)
  · refine zH_lt (fun ν e => zH_some ⟨s + l, rn, ?_, ?_, fun w => absurd w (by omega), fun _ => by rw [e, zUp_same], by rw [e]; exact LF.up _ (by decide) (by decide)⟩)
    · rw [e, zUp_slot _ (by decide)]; exact ha
    · rw [e, zUp_slot _ (by decide)]; exact hs
  · refine zH_lt (fun ν e => zH_some ⟨s + l, rn, ?_, ?_, fun _ => ⟨by rw [e, zUp_same], ?_⟩, fun w => absurd w (by omega), by rw [e]; exact LF.up _ (by decide) (by decide)⟩)
    · rw [e, zUp_slot _ (by decide)]; exact ha
    · rw [e, zUp_slot _ (by decide)]; exact hs
    · rw [e, zUp_slot _ (by decide), show s + l - s = l by omega]; exact hv (by omega)
theorem WQ.tr {b : Nat → Nat} {n s : Nat} {μ ν ξ : gM} (g : LF μ ν) (h : WQ b n s ν ξ) : WQ b n s μ ξ := by
  obtain ⟨e, h1, h2, h3, h4, h5, h6⟩ := h
  exact ⟨e, h1, h2, h3, h4, h5, g.tr h6⟩
theorem cw5 {b : Nat → Nat} {n s : Nat} : ∀ (m l : Nat) (μ : gM), CT b n μ → (μ 1 5).toInt = s → (μ 1 3).toInt = ((s + l : Nat) : Int) → s + l ≤ n → wL b s l → (l ≤ 6 → μ 1 6 = nI (eC b s l)) → n < s + l + m → zH (fX7_readWord_l5 m μ) (WQ b n s μ) := by
  intro m
  induction m with
  | zero =>
    intro l μ h hs ha hn hw hv gm
    exact absurd gm (by omega)
  | succ m ih =>
    intro l μ h hs ha hn hw hv gm
    rw [fX7_readWord_l5]
    have hn5 := h.2.1
    have ca := cl_of ha
    refine zH_lec h.1 ha (fun c => cw106 h hs ha hn hw hv (fun w => absurd w (by omega))) (fun c => ?_)
    have hb := h.2.2 (s + l) (by omega)
    refine zH_ck (zIn ha (by omega) (by omega)) ?_
    rw [ca]
    refine zH_ltc hb.1 (iL (97) (97) rfl) (fun c1 => cw106 h hs ha hn hw hv (fun _ w => by unfold isL at w; omega)) (fun c1 => ?_)
    refine zH_ck (zIn ha (by omega) (by omega)) ?_
    refine zH_ltc (iL (122) (122) rfl) hb.1 (fun c2 => cw106 h hs ha hn hw hv (fun _ w => by unfold isL at w; omega)) (fun c2 => ?_)
    have hl : isL (b (s + l)) := ⟨by omega, by omega⟩
    have hw1 : wL b s (l + 1) := fun i a d => by
      rcases Nat.lt_or_ge i (s + l) with w | w
      · exact hw i a w
      · rw [show i = s + l by omega]; exact hl
    have q := iS ha hs (by omega) (by omega)
    have q1 := iA ha (iL (1) (1) rfl) (by omega) (by omega)
    refine zH_lec (iL (6) (6) rfl) q (fun c3 => ?_) (fun c3 => ?_)
    · unfold fX7_readWord_n93
      refine zH_lt (fun μ7 e7 => ?_)
      have g7 : LF μ μ7 := by rw [e7]; exact LF.up _ (by decide) (by decide)
      refine zH_mono (ih (l + 1) μ7 (h.lf g7) (by rw [e7, zUp_slot _ (by decide)]; exact hs) (by rw [e7, zUp_same, q1]; omega) (by omega) hw1 (fun w => absurd w (by omega)) (by omega)) (fun ν p => WQ.tr g7 p)
    · refine zH_ck (zIn ha (by omega) (by omega)) ?_
      refine zH_lt (fun μ9 e9 => ?_)
      have g9 : LF μ μ9 := by rw [e9]; exact LF.up _ (by decide) (by decide)
      have a9 : (μ9 1 3).toInt = ((s + l : Nat) : Int) := by rw [e9, zUp_slot _ (by decide)]; exact ha
      have q9 := iA a9 (iL (1) (1) rfl) (by omega) (by omega)
      have v9 : μ9 1 6 = nI (eC b s (l + 1)) := by
        rw [e9, zUp_same, eC_snoc]
        have hc : (μ 2 (s + l) - (97 : Int32)) + (1 : Int32) = nI (b (s + l) - 96) := by
          refine nI_of' ?_
          rw [iA (iS hb.1 (iL (97) (97) rfl) (by omega) (by omega)) (iL (1) (1) rfl) (by omega) (by omega)]
          omega
        exact add_letter (hv (by omega)) (eC_lt l s hw) hc (by unfold isL at hl; omega) (by omega) ((iM (iL (5) (5) rfl) q (by omega) (by omega)).trans (by omega))
      unfold fX7_readWord_n93
      refine zH_lt (fun μ7 e7 => ?_)
      have g7 : LF μ9 μ7 := by rw [e7]; exact LF.up _ (by decide) (by decide)
      refine zH_mono (ih (l + 1) μ7 (h.lf (g9.tr g7)) (by rw [e7, zUp_slot _ (by decide), e9, zUp_slot _ (by decide)]; exact hs) (by rw [e7, zUp_same, q9]; omega) (by omega) hw1 (fun _ => by rw [e7, zUp_slot _ (by decide)]; exact v9) (by omega)) (fun ν p => WQ.tr (g9.tr g7) p)
theorem cwWord {b : Nat → Nat} {n s : Nat} {μ : gM} (h : CT b n μ) (hs : (μ 1 5).toInt = s) (ha : (μ 1 3).toInt = s) (hn : s ≤ n) : zH (fX7_readWord μ) (WQ b n s μ) := by
  unfold fX7_readWord
  refine zH_lt (fun μ1 e1 => ?_)
  have g1 : LF μ μ1 := by rw [e1]; exact LF.up _ (by decide) (by decide)
  have hn5 := h.2.1
  exact zH_mono (cw5 100000 0 μ1 (h.lf g1) (by rw [e1, zUp_slot _ (by decide)]; exact hs) (by rw [e1, zUp_slot _ (by decide)]; exact ha) hn (fun i a c => absurd c (by omega)) (fun _ => by rw [e1, zUp_same]; rfl) (by omega)) (fun ν p => WQ.tr g1 p)
/-- numbers -/
def wD (b : Nat → Nat) (s l : Nat) : Prop := ∀ i, s ≤ i → i < s + l → isD (b i)
theorem eN_lt {b : Nat → Nat} : ∀ (l s : Nat), wD b s l → eN b s l < 10 ^ l
  | 0, s, _ => by simp [eN]
  | l + 1, s, h => by
    have h0 := h (s + l) (by omega) (by omega)
    have h1 := eN_lt l s (fun i a c => h i a (by omega))
    rw [eN, Nat.pow_succ]
    unfold isD at h0
    omega
theorem p10 {l : Nat} (h : l ≤ 4) : 10 ^ l ≤ 10000 := by
  have : l = 0 ∨ l = 1 ∨ l = 2 ∨ l = 3 ∨ l = 4 := by omega
  rcases this with rfl | rfl | rfl | rfl | rfl <;> decide
def DQ (b : Nat → Nat) (n s : Nat) (μ ν : gM) : Prop := ∃ e, Rn isD b n s e ∧ (ν 1 3).toInt = e ∧ (ν 1 5).toInt = s ∧ (e ≤ s + 4 → ν 1 4 = 2 ∧ ν 1 6 = nI (eN b s (e - s))) ∧ (s + 4 < e → ν 1 4 = 4) ∧ LF μ ν
theorem cd94 {b : Nat → Nat} {n s l : Nat} {μ : gM} (h : CT b n μ) (hs : (μ 1 5).toInt = s) (ha : (μ 1 3).toInt = ((s + l : Nat) : Int)) (hn : s + l ≤ n) (hw : wD b s l) (hv : l ≤ 4 → μ 1 6 = nI (eN b s l)) (hx : s + l < n → ¬ isD (b (s + l))) : zH (fX7_readNumber_n94 μ) (DQ b n s μ) := by
  unfold fX7_readNumber_n94
  have hn5 := h.2.1
  have q := iS ha hs (by omega) (by omega)
  have rn : Rn isD b n s (s + l) := ⟨by omega, hn, fun i a c => hw i a c, hx⟩
  refine zH_ltc (iL (4) (4) rfl) q (fun c => ?_) (fun c => ?_)
  · refine zH_lt (fun ν e => zH_some ⟨s + l, rn, ?_, ?_, fun w => absurd w (by omega), fun _ => by rw [e, zUp_same], by rw [e]; exact LF.up _ (by decide) (by decide)⟩)
    · rw [e, zUp_slot _ (by decide)]; exact ha
    · rw [e, zUp_slot _ (by decide)]; exact hs
  · refine zH_lt (fun ν e => zH_some ⟨s + l, rn, ?_, ?_, fun _ => ⟨by rw [e, zUp_same], ?_⟩, fun w => absurd w (by omega), by rw [e]; exact LF.up _ (by decide) (by decide)⟩)
    · rw [e, zUp_slot _ (by decide)]; exact ha
    · rw [e, zUp_slot _ (by decide)]; exact hs
    · rw [e, zUp_slot _ (by decide), show s + l - s = l by omega]; exact hv (by omega)
theorem DQ.tr {b : Nat → Nat} {n s : Nat} {μ ν ξ : gM} (g : LF μ ν) (h : DQ b n s ν ξ) : DQ b n s μ ξ := by
  obtain ⟨e, h1, h2, h3, h4, h5, h6⟩ := h
  exact ⟨e, h1, h2, h3, h4, h5, g.tr h6⟩
theorem cd5 {b : Nat → Nat} {n s : Nat} : ∀ (m l : Nat) (μ : gM), CT b n μ → (μ 1 5).toInt = s → (μ 1 3).toInt = ((s + l : Nat) : Int) → s + l ≤ n → wD b s l → (l ≤ 4 → μ 1 6 = nI (eN b s l)) → n < s + l + m → zH (fX7_readNumber_l5 m μ) (DQ b n s μ) := by
  intro m
  induction m with
  | zero =>
    intro l μ h hs ha hn hw hv gm
    exact absurd gm (by omega)
  | succ m ih =>
    intro l μ h hs ha hn hw hv gm
    rw [fX7_readNumber_l5]
    have hn5 := h.2.1
    have ca := cl_of ha
    refine zH_lec h.1 ha (fun c => cd94 h hs ha hn hw hv (fun w => absurd w (by omega))) (fun c => ?_)
    have hb := h.2.2 (s + l) (by omega)
    refine zH_ck (zIn ha (by omega) (by omega)) ?_
    rw [ca]
    refine zH_ltc hb.1 (iL (48) (48) rfl) (fun c1 => cd94 h hs ha hn hw hv (fun _ w => by unfold isD at w; omega)) (fun c1 => ?_)
    refine zH_ck (zIn ha (by omega) (by omega)) ?_
    refine zH_ltc (iL (57) (57) rfl) hb.1 (fun c2 => cd94 h hs ha hn hw hv (fun _ w => by unfold isD at w; omega)) (fun c2 => ?_)
    have hl : isD (b (s + l)) := ⟨by omega, by omega⟩
    have hw1 : wD b s (l + 1) := fun i a d => by
      rcases Nat.lt_or_ge i (s + l) with w | w
      · exact hw i a w
      · rw [show i = s + l by omega]; exact hl
    have q := iS ha hs (by omega) (by omega)
    have q1 := iA ha (iL (1) (1) rfl) (by omega) (by omega)
    refine zH_lec (iL (4) (4) rfl) q (fun c3 => ?_) (fun c3 => ?_)
    · unfold fX7_readNumber_n81
      refine zH_lt (fun μ7 e7 => ?_)
      have g7 : LF μ μ7 := by rw [e7]; exact LF.up _ (by decide) (by decide)
      refine zH_mono (ih (l + 1) μ7 (h.lf g7) (by rw [e7, zUp_slot _ (by decide)]; exact hs) (by rw [e7, zUp_same, q1]; omega) (by omega) hw1 (fun w => absurd w (by omega)) (by omega)) (fun ν p => DQ.tr g7 p)
    · refine zH_ck (zIn ha (by omega) (by omega)) ?_
      refine zH_lt (fun μ9 e9 => ?_)
      have g9 : LF μ μ9 := by rw [e9]; exact LF.up _ (by decide) (by decide)
      have a9 : (μ9 1 3).toInt = ((s + l : Nat) : Int) := by rw [e9, zUp_slot _ (by decide)]; exact ha
      have q9 := iA a9 (iL (1) (1) rfl) (by omega) (by omega)
      have hv0 := hv (by omega)
      have ev := eN_lt l s hw
      have pv := p10 (l := l) (by omega)
      have tv : (μ 1 6).toInt = ((eN b s l : Nat) : Int) := by rw [hv0]; exact nI_toInt (by omega)
      have v9 : μ9 1 6 = nI (eN b s (l + 1)) := by
        refine nI_of' ?_
        rw [e9, zUp_same, iS (iA (iM tv (iL (10) (10) rfl) (by omega) (by omega)) hb.1 (by omega) (by omega)) (iL (48) (48) rfl) (by omega) (by omega), eN]
        unfold isD at hl
        omega
      unfold fX7_readNumber_n81
      refine zH_lt (fun μ7 e7 => ?_)
      have g7 : LF μ9 μ7 := by rw [e7]; exact LF.up _ (by decide) (by decide)
      refine zH_mono (ih (l + 1) μ7 (h.lf (g9.tr g7)) (by rw [e7, zUp_slot _ (by decide), e9, zUp_slot _ (by decide)]; exact hs) (by rw [e7, zUp_same, q9]; omega) (by omega) hw1 (fun _ => by rw [e7, zUp_slot _ (by decide)]; exact v9) (by omega)) (fun ν p => DQ.tr (g9.tr g7) p)
theorem cdNumber {b : Nat → Nat} {n s : Nat} {μ : gM} (h : CT b n μ) (hs : (μ 1 5).toInt = s) (ha : (μ 1 3).toInt = s) (hn : s ≤ n) : zH (fX7_readNumber μ) (DQ b n s μ) := by
  unfold fX7_readNumber
  refine zH_lt (fun μ1 e1 => ?_)
  have g1 : LF μ μ1 := by rw [e1]; exact LF.up _ (by decide) (by decide)
  have hn5 := h.2.1
  exact zH_mono (cd5 100000 0 μ1 (h.lf g1) (by rw [e1, zUp_slot _ (by decide)]; exact hs) (by rw [e1, zUp_slot _ (by decide)]; exact ha) hn (fun i a c => absurd c (by omega)) (fun _ => by rw [e1, zUp_same]; rfl) (by omega)) (fun ν p => DQ.tr g1 p)
/-- what stands at a place: its kind, where it ends, its value -/
def Tok (b : Nat → Nat) (n s : Nat) (g : Int) (k : Int32) (e : Nat) (v : Int32) : Prop :=
  (s = n ∧ k = 0 ∧ e = n) ∨
  (s < n ∧ isL (b s) ∧ Rn isL b n s e ∧ (e ≤ s + 6 → (s : Int) ≠ g → k = 1 ∧ v = nI (eC b s (e - s))) ∧ (s + 6 < e ∨ (s : Int) = g → k = 4)) ∨
  (s < n ∧ isD (b s) ∧ Rn isD b n s e ∧ (e ≤ s + 4 → (s : Int) ≠ g → k = 2 ∧ v = nI (eN b s (e - s))) ∧ (s + 4 < e ∨ (s : Int) = g → k = 4)) ∨
  (s < n ∧ b s = 59 ∧ k = 3 ∧ e = s + 1) ∨
  (s < n ∧ ¬ isL (b s) ∧ ¬ isD (b s) ∧ b s ≠ 59 ∧ k = 4 ∧ e = s + 1)
def CS (b : Nat → Nat) (n s : Nat) (g : Int) (ν : gM) : Prop := (ν 1 5).toInt = s ∧ ∃ e : Nat, (ν 1 3).toInt = e ∧ e ≤ n ∧ Tok b n s g (ν 1 4) e (ν 1 6)
theorem ca175w {b : Nat → Nat} {n s : Nat} {y1 : Int32} {μ ν : gM} (hsn : s < n) (hl : isL (b s)) (p : WQ b n s μ ν) : zH (fX7_advance_n175 y1 ν) (fun ξ => CS b n s y1.toInt ξ ∧ LF μ ξ) := by
  obtain ⟨e, h1, h2, h3, h4, h5, h6⟩ := p
  unfold fX7_advance_n175
  refine zH_eqc h3 (rfl : y1.toInt = _) (fun _ c => ?_) (fun _ c => ?_)
  · refine zH_eqc (rfl : (ν 1 4).toInt = _) (iL (3) (3) rfl) (fun c3 _ => ?_) (fun _ c3 => ?_)
    · exfalso
      rcases Nat.lt_or_ge (s + 6) e with w | w
      · rw [h5 w] at c3; exact absurd c3 (by decide)
      · rw [(h4 w).1] at c3; exact absurd c3 (by decide)
    · refine zH_lt (fun ξ e7 => zH_some ⟨⟨by rw [e7, zUp_slot _ (by decide)]; exact h3, e, by rw [e7, zUp_slot _ (by decide)]; exact h2, h1.2.1, Or.inr (Or.inl ⟨hsn, hl, h1, fun _ w => absurd c w, fun _ => by rw [e7, zUp_same]⟩)⟩, h6.tr (by rw [e7]; exact LF.up _ (by decide) (by decide))⟩)
  · exact zH_some ⟨⟨h3, e, h2, h1.2.1, Or.inr (Or.inl ⟨hsn, hl, h1, fun w _ => h4 w, fun w => h5 (by omega)⟩)⟩, h6⟩
theorem ca175d {b : Nat → Nat} {n s : Nat} {y1 : Int32} {μ ν : gM} (hsn : s < n) (hl : isD (b s)) (p : DQ b n s μ ν) : zH (fX7_advance_n175 y1 ν) (fun ξ => CS b n s y1.toInt ξ ∧ LF μ ξ) := by
  obtain ⟨e, h1, h2, h3, h4, h5, h6⟩ := p
  unfold fX7_advance_n175
  refine zH_eqc h3 (rfl : y1.toInt = _) (fun _ c => ?_) (fun _ c => ?_)
  · refine zH_eqc (rfl : (ν 1 4).toInt = _) (iL (3) (3) rfl) (fun c3 _ => ?_) (fun _ c3 => ?_)
    · exfalso
      rcases Nat.lt_or_ge (s + 4) e with w | w
      · rw [h5 w] at c3; exact absurd c3 (by decide)
      · rw [(h4 w).1] at c3; exact absurd c3 (by decide)
    · refine zH_lt (fun ξ e7 => zH_some ⟨⟨by rw [e7, zUp_slot _ (by decide)]; exact h3, e, by rw [e7, zUp_slot _ (by decide)]; exact h2, h1.2.1, Or.inr (Or.inr (Or.inl ⟨hsn, hl, h1, fun _ w => absurd c w, fun _ => by rw [e7, zUp_same]⟩))⟩, h6.tr (by rw [e7]; exact LF.up _ (by decide) (by decide))⟩)
  · exact zH_some ⟨⟨h3, e, h2, h1.2.1, Or.inr (Or.inr (Or.inl ⟨hsn, hl, h1, fun w _ => h4 w, fun w => h5 (by omega)⟩))⟩, h6⟩
theorem ca162 {b : Nat → Nat} {n s : Nat} {y1 z0 : Int32} {μ : gM} (h : CT b n μ) (hs : (μ 1 5).toInt = s) (ha : (μ 1 3).toInt = s) (hsn : s < n) (hl : ¬ isL (b s)) (hd : ¬ isD (b s)) (hz : (b s = 59 ∧ z0 = 3) ∨ (b s ≠ 59 ∧ z0 = 4)) : zH (fX7_advance_n162 y1 z0 μ) (fun ξ => CS b n s y1.toInt ξ ∧ LF μ ξ) := by
  have hn5 := h.2.1
  unfold fX7_advance_n162
  refine zH_lt (fun μ5 e5 => ?_)
  have a5 : (μ5 1 3).toInt = s := by rw [e5, zUp_slot _ (by decide)]; exact ha
  have q5 := iA a5 (iL (1) (1) rfl) (by omega) (by omega)
  refine zH_lt (fun μ6 e6 => ?_)
  have g6 : LF μ μ6 := by rw [e6, e5]; exact (LF.up _ (by decide) (by decide)).tr (LF.up _ (by decide) (by decide))
  have s6 : (μ6 1 5).toInt = s := by rw [e6, zUp_slot _ (by decide), e5, zUp_slot _ (by decide)]; exact hs
  have a6 : (μ6 1 3).toInt = ((s + 1 : Nat) : Int) := by rw [e6, zUp_same, q5]; omega
  have k6 : μ6 1 4 = z0 := by rw [e6, zUp_slot _ (by decide), e5, zUp_same]
  unfold fX7_advance_n175
  have fin : ∀ ξ : gM, LF μ6 ξ → (ξ 1 5) = μ6 1 5 → ξ 1 3 = μ6 1 3 → ((b s = 59 ∧ ξ 1 4 = 3) ∨ (b s ≠ 59 ∧ ξ 1 4 = 4)) → CS b n s y1.toInt ξ ∧ LF μ ξ := fun ξ g q1 q2 q3 => by
    refine ⟨⟨by rw [q1]; exact s6, s + 1, by rw [q2]; exact a6, by omega, ?_⟩, g6.tr g⟩
    rcases q3 with ⟨w1, w2⟩ | ⟨w1, w2⟩
    · exact Or.inr (Or.inr (Or.inr (Or.inl ⟨hsn, w1, w2, rfl⟩)))
    · exact Or.inr (Or.inr (Or.inr (Or.inr ⟨hsn, hl, hd, w1, w2, rfl⟩)))
  rw [← k6] at hz
  refine zH_ite (fun _ => ?_) (fun _ => zH_some (fin μ6 (LF.rf _) rfl rfl hz))
  refine zH_ite (fun _ => zH_some (fin μ6 (LF.rf _) rfl rfl hz)) (fun c3 => ?_)
  refine zH_lt (fun ξ e7 => zH_some (fin ξ (by rw [e7]; exact LF.up _ (by decide) (by decide)) (by rw [e7, zUp_slot _ (by decide)]) (by rw [e7, zUp_slot _ (by decide)]) ?_))
  rcases hz with ⟨w1, w2⟩ | ⟨w1, w2⟩
  · exact absurd w2 c3
  · exact Or.inr ⟨w1, by rw [e7, zUp_same]⟩
theorem ca77 {b : Nat → Nat} {n s : Nat} {y1 : Int32} {μ : gM} (h : CT b n μ) (ha : (μ 1 3).toInt = s) (hn : s ≤ n) : zH (fX7_advance_n77 y1 μ) (fun ξ => CS b n s y1.toInt ξ ∧ LF μ ξ) := by
  have hn5 := h.2.1
  unfold fX7_advance_n77
  refine zH_lt (fun μ2 e2 => ?_)
  have g2 : LF μ μ2 := by rw [e2]; exact LF.up _ (by decide) (by decide)
  have h2 := h.lf g2
  have s2 : (μ2 1 5).toInt = s := by rw [e2, zUp_same]; exact ha
  have a2 : (μ2 1 3).toInt = s := by rw [e2, zUp_slot _ (by decide)]; exact ha
  have up : ∀ {m : Option gM}, zH m (fun ξ => CS b n s y1.toInt ξ ∧ LF μ2 ξ) → zH m (fun ξ => CS b n s y1.toInt ξ ∧ LF μ ξ) := fun hm => zH_mono hm (fun ξ p => ⟨p.1, g2.tr p.2⟩)
  refine zH_ltc a2 h2.1 (fun c => ?_) (fun c => ?_)
  · have hb := h2.2.2 s (by omega)
    refine zH_ck (zIn a2 (by omega) (by omega)) ?_
    rw [cl_of a2]
    refine zH_lt (fun x4 e4 => ?_)
    have q4 : x4.toInt = b s := by rw [e4]; exact hb.1
    have n131 : ¬ isL (b s) → zH (fX7_advance_n131 y1 x4 μ2) (fun ξ => CS b n s y1.toInt ξ ∧ LF μ2 ξ) := fun hl => by
      unfold fX7_advance_n131
      have n150 : ¬ isD (b s) → zH (fX7_advance_n150 y1 x4 μ2) (fun ξ => CS b n s y1.toInt ξ ∧ LF μ2 ξ) := fun hd => by
        unfold fX7_advance_n150
        refine zH_eqc q4 (iL (59) (59) rfl) (fun _ w => ca162 h2 s2 a2 (by omega) hl hd (Or.inl ⟨by omega, rfl⟩)) (fun _ w => ca162 h2 s2 a2 (by omega) hl hd (Or.inr ⟨by omega, rfl⟩))
      refine zH_ltc q4 (iL (48) (48) rfl) (fun w => n150 (fun v => by unfold isD at v; omega)) (fun w => ?_)
      refine zH_ltc (iL (57) (57) rfl) q4 (fun w2 => n150 (fun v => by unfold isD at v; omega)) (fun w2 => ?_)
      exact zH_bd (cdNumber h2 s2 a2 hn) (fun ν p => ca175d (by omega) ⟨by omega, by omega⟩ p)
    refine zH_ltc q4 (iL (97) (97) rfl) (fun w => up (n131 (fun v => by unfold isL at v; omega))) (fun w => ?_)
    refine zH_ltc (iL (122) (122) rfl) q4 (fun w2 => up (n131 (fun v => by unfold isL at v; omega))) (fun w2 => ?_)
    exact up (zH_bd (cwWord h2 s2 a2 hn) (fun ν p => ca175w (by omega) ⟨by omega, by omega⟩ p))
  · refine zH_lt (fun ξ e7 => zH_some ⟨⟨by rw [e7, zUp_slot _ (by decide)]; exact s2, n, by rw [e7, zUp_slot _ (by decide), a2]; omega, Nat.le_refl _, Or.inl ⟨by omega, by rw [e7, zUp_same], rfl⟩⟩, g2.tr (by rw [e7]; exact LF.up _ (by decide) (by decide))⟩)
theorem ca25 {b : Nat → Nat} {n : Nat} : ∀ (m p : Nat) (y1 : Int32) (μ : gM), CT b n μ → (μ 1 3).toInt = p → p ≤ n → n < p + m → zH (fX7_advance_l25 m y1 μ) (fun ξ => ∃ s, Skp b n p s ∧ CS b n s y1.toInt ξ ∧ LF μ ξ) := by
  intro m
  induction m with
  | zero =>
    intro p y1 μ h ha hn gm
    exact absurd gm (by omega)
  | succ m ih =>
    intro p y1 μ h ha hn gm
    have hn5 := h.2.1
    rw [fX7_advance_l25]
    have stop : (p < n → ¬ isW (b p)) → zH (fX7_advance_n77 y1 μ) (fun ξ => ∃ s, Skp b n p s ∧ CS b n s y1.toInt ξ ∧ LF μ ξ) := fun w => zH_mono (ca77 h ha hn) (fun ξ q => ⟨p, ⟨Nat.le_refl _, hn, fun i a c => absurd c (by omega), w⟩, q⟩)
    refine zH_lec h.1 ha (fun c => stop (fun w => absurd w (by omega))) (fun c => ?_)
    have hb := h.2.2 p (by omega)
    have go : isW (b p) → zH (fX7_advance_n64 (fX7_advance_l25 m) y1 μ) (fun ξ => ∃ s, Skp b n p s ∧ CS b n s y1.toInt ξ ∧ LF μ ξ) := fun w => by
      unfold fX7_advance_n64
      refine zH_lt (fun μ2 e2 => ?_)
      have g2 : LF μ μ2 := by rw [e2]; exact LF.up _ (by decide) (by decide)
      have q2 : (μ2 1 3).toInt = ((p + 1 : Nat) : Int) := by rw [e2, zUp_same, iA ha (iL (1) (1) rfl) (by omega) (by omega)]; omega
      refine zH_mono (ih (p + 1) y1 μ2 (h.lf g2) q2 (by omega) (by omega)) (fun ξ q => ?_)
      obtain ⟨s, ⟨k1, k2, k3, k4⟩, k5, k6⟩ := q
      refine ⟨s, ⟨by omega, k2, fun i a c => ?_, k4⟩, k5, g2.tr k6⟩
      rcases Nat.lt_or_ge p i with v | v
      · exact k3 i v c
      · rw [show i = p by omega]; exact w
    refine zH_ck (zIn ha (by omega) (by omega)) ?_
    rw [cl_of ha]
    refine zH_eqc hb.1 (iL (10) (10) rfl) (fun _ w => go (Or.inl (by omega))) (fun _ w => ?_)
    refine zH_ck (zIn ha (by omega) (by omega)) ?_
    refine zH_eqc hb.1 (iL (32) (32) rfl) (fun _ w2 => go (Or.inr (by omega))) (fun _ w2 => stop (fun _ v => by unfold isW at v; omega))
/-- where what is read next can't stand: right behind a word or a number -/
def glue (k : Int32) (p : Nat) : Int := if k = 1 ∨ k = 2 then (p : Int) else -1
theorem cAdvance {b : Nat → Nat} {n p : Nat} {μ : gM} (h : CT b n μ) (ha : (μ 1 3).toInt = p) (hn : p ≤ n) : zH (fX7_advance μ) (fun ξ => ∃ s, Skp b n p s ∧ CS b n s (glue (μ 1 4) p) ξ ∧ LF μ ξ) := by
  have hn5 := h.2.1
  unfold fX7_advance
  refine zH_ite (fun c => ?_) (fun c => ?_)
  · refine zH_lt (fun x1 e1 => ?_)
    have g : glue (μ 1 4) p = x1.toInt := by unfold glue; rw [if_pos (Or.inl c), e1, ha]
    rw [g]
    exact ca25 100000 p x1 μ h ha hn (by omega)
  · refine zH_ite (fun c2 => ?_) (fun c2 => ?_)
    · refine zH_lt (fun x1 e1 => ?_)
      have g : glue (μ 1 4) p = x1.toInt := by unfold glue; rw [if_pos (Or.inr c2), e1, ha]
      rw [g]
      exact ca25 100000 p x1 μ h ha hn (by omega)
    · have g : glue (μ 1 4) p = (-1 : Int32).toInt := by unfold glue; rw [if_neg (by rintro (w | w); exact c w; exact c2 w)]; rfl
      rw [g]
      exact ca25 100000 p (-1 : Int32) μ h ha hn (by omega)
