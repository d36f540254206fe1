/-! own words, told by their letters -/
def ownW : List (List Nat) := [[103, 97, 116, 101], [108, 105, 110, 107], [103, 114, 111, 117, 112], [101, 118, 101, 114, 121], [100, 101, 108, 97, 121], [107, 101, 101, 112, 115], [115, 108, 111, 116, 115], [109, 101, 109, 98, 101, 114], [111, 102], [119, 111, 114, 100], [115, 104, 97, 114, 101], [116, 114, 97, 99, 107], [98, 121], [108, 101, 115, 115], [97, 116], [117, 112], [100, 111, 119, 110], [99, 117, 116], [109, 101, 110, 100], [115, 112, 108, 105, 116], [104, 101, 97, 108]]
def wb (k i : Nat) : Nat := (ownW.getD k []).getD i 0
def wl (k : Nat) : Nat := (ownW.getD k []).length
def WmL : List Int32 := [231045, 402891, 7945904, 5969497, 4370489, 11703827, 20332179, 441878706, 486, 769604, 20186693, 21562475, 89, 398963, 52, 688, 147182, 3764, 431556, 20459828, 267308]
def Wm (k : Nat) : Int32 := WmL.getD k 0
theorem wb_w : ∀ k, k < 21 → ∀ i, i < wl k → 97 ≤ wb k i ∧ wb k i ≤ 122 := by decide +kernel
theorem wl_6 : ∀ k, k < 21 → 1 ≤ wl k ∧ wl k ≤ 6 := by decide +kernel
theorem own_c : ∀ k, k < 21 → gOwn k = nI (eC (wb k) 0 (wl k)) := by decide +kernel
theorem own_m : ∀ k, k < 21 → Wm k = nI (eM (wb k) 0 (wl k)) := by decide +kernel
theorem own_d : ∀ k, k < 21 → ∀ j, j < 21 → wl k = wl j → (∀ i, i < wl k → wb k i = wb j i) → k = j := by decide +kernel
theorem wb_wL {k : Nat} (hk : k < 21) : wL (wb k) 0 (wl k) := fun i _ h => wb_w k hk i (by omega)
/-- own word k stands there -/
def WD (b : Nat → Nat) (n s : Nat) (g : Int) (k : Nat) : Prop := WAt b n s g (s + wl k) ∧ ∀ i, i < wl k → b (s + i) = wb k i
theorem WAt.wl {b : Nat → Nat} {n s e : Nat} {g : Int} (h : WAt b n s g e) : wL b s (e - s) := fun i a c => h.2.2.1.2.2.1 i a (by have := h.2.2.1.1; omega)
theorem WAt.uniq {b : Nat → Nat} {n s e f : Nat} {g : Int} (h : WAt b n s g e) (h' : WAt b n s g f) : e = f := Rn.uniq h.2.2.1 h'.2.2.1
theorem nI_inj {a b : Nat} (ha : a < 2 ^ 31) (hb : b < 2 ^ 31) (h : nI a = nI b) : a = b := (nI_eq ha hb).mp h
theorem WD_c {b : Nat → Nat} {n s e k : Nat} {g : Int} (h : WAt b n s g e) (hk : k < 21) : nI (eC b s (e - s)) = gOwn k ↔ WD b n s g k := by
  have w1 := h.wl
  have l6 : e - s ≤ 6 := by have := h.2.2.2.1; omega
  have k6 := wl_6 k hk
  have c1 := eC_lt (e - s) s w1
  have c2 := eC_lt (wl k) 0 (wb_wL hk)
  have d1 := p32 l6
  have d2 := p32 k6.2
  rw [own_c k hk]
  constructor
  · intro q
    obtain ⟨q1, q2⟩ := eC_inj _ _ _ _ w1 (wb_wL hk) (nI_inj (by omega) (by omega) q)
    have es : s + wl k = e := by have := h.2.2.1.1; omega
    refine ⟨by rw [es]; exact h, fun i hi => ?_⟩
    have := q2 i (by omega)
    rw [Nat.zero_add] at this
    exact this
  · intro q
    have es : e = s + wl k := h.uniq q.1
    rw [es, show s + wl k - s = wl k by omega, eC_congr (c := wb k) (wl k) s 0 (fun i hi => by rw [Nat.zero_add]; exact q.2 i hi)]
theorem WD_m {b : Nat → Nat} {n s e k : Nat} {g : Int} (h : WAt b n s g e) (hk : k < 21) : nI (eM b s (e - s)) = Wm k ↔ WD b n s g k := by
  have w1 := h.wl
  have l6 : e - s ≤ 6 := by have := h.2.2.2.1; omega
  have k6 := wl_6 k hk
  have c1 := eM_lt (e - s) s w1
  have c2 := eM_lt (wl k) 0 (wb_wL hk)
  have d1 := p32 l6
  have d2 := p32 k6.2
  rw [own_m k hk]
  constructor
  · intro q
    obtain ⟨q1, q2⟩ := eM_inj _ _ _ _ w1 (wb_wL hk) (nI_inj (by omega) (by omega) q)
    have es : s + wl k = e := by have := h.2.2.1.1; omega
    refine ⟨by rw [es]; exact h, fun i hi => ?_⟩
    have := q2 i (by omega)
    rw [Nat.zero_add] at this
    exact this
  · intro q
    have es : e = s + wl k := h.uniq q.1
    rw [es, show s + wl k - s = wl k by omega, eM_congr (c := wb k) (wl k) s 0 (fun i hi => by rw [Nat.zero_add]; exact q.2 i hi)]
theorem WD.uniq {b : Nat → Nat} {n s k j : Nat} {g : Int} (hk : k < 21) (hj : j < 21) (h : WD b n s g k) (h' : WD b n s g j) : k = j := by
  have e := h.1.uniq h'.1
  exact own_d k hk j hj (by omega) (fun i hi => (h.2 i hi).symm.trans (h'.2 i (by omega)))
/-- the class: a word is read where one stands -/
theorem CS.word {b : Nat → Nat} {n s : Nat} {g : Int} {μ : gM} (h : CS b n s g μ) : (∃ e, WAt b n s g e ∧ μ 1 4 = 1 ∧ μ 1 6 = nI (eC b s (e - s)) ∧ (μ 1 3).toInt = e) ∨ ((∀ e, ¬ WAt b n s g e) ∧ μ 1 4 ≠ 1) := by
  obtain ⟨h1, e, h2, h3, t⟩ := h
  rcases t with ⟨t1, t2, t3⟩ | ⟨t1, t2, t3, t4, t5⟩ | ⟨t1, t2, t3, t4, t5⟩ | ⟨t1, t2, t3, t4⟩ | ⟨t1, t2, t3, t4, t5, t6⟩
  · exact Or.inr ⟨fun f w => absurd w.1 (by omega), by rw [t2]; decide⟩
  · by_cases c : e ≤ s + 6 ∧ (s : Int) ≠ g
    · exact Or.inl ⟨e, ⟨t1, t2, t3, c.1, c.2⟩, (t4 c.1 c.2).1, (t4 c.1 c.2).2, h2⟩
    · refine Or.inr ⟨fun f w => ?_, by rw [t5 (by omega)]; decide⟩
      have := Rn.uniq t3 w.2.2.1
      subst this
      exact c ⟨w.2.2.2.1, w.2.2.2.2⟩
  · refine Or.inr ⟨fun f w => ?_, ?_⟩
    · have a := w.2.1; unfold isL at a; unfold isD at t2; omega
    · by_cases c : e ≤ s + 4 ∧ (s : Int) ≠ g
      · rw [(t4 c.1 c.2).1]; decide
      · rw [t5 (by omega)]; decide
  · refine Or.inr ⟨fun f w => ?_, by rw [t3]; decide⟩
    have a := w.2.1; unfold isL at a; omega
  · exact Or.inr ⟨fun f w => t2 w.2.1, by rw [t5]; decide⟩
/-- the own words, and no fault told -/
def OWN (μ : gM) : Prop := (∀ k, k < 21 → μ 3 k = gOwn k) ∧ μ 1 7 = 0 ∧ μ 1 8 = -1
theorem cOwn_l2 {b : Nat → Nat} {n s : Nat} {g : Int} {μ : gM} (h : CS b n s g μ) (ho : OWN μ) : ∀ (m k : Nat) (y1 : Int32), y1.toInt = k → k ≤ 21 → (∀ j, j < k → ¬ WD b n s g j) → 21 < k + m → zH (fX7_ownWord_l2 m y1 μ) (fun v => (∃ k, k < 21 ∧ v = nI k ∧ WD b n s g k) ∨ (v = -1 ∧ ∀ k, k < 21 → ¬ WD b n s g k)) := by
  intro m
  induction m with
  | zero =>
    intro k y1 hy hk hj gm
    exact absurd gm (by omega)
  | succ m ih =>
    intro k y1 hy hk hj gm
    rw [fX7_ownWord_l2]
    refine zH_lec (iL (21) (21) rfl) hy (fun c => zH_some (Or.inr ⟨rfl, fun j hj' => hj j (by omega)⟩)) (fun c => ?_)
    rcases h.word with ⟨e, w1, w2, w3, w4⟩ | ⟨w1, w2⟩
    · rw [if_pos w2]
      refine zH_ck (zIn hy (by omega) (by omega)) ?_
      rw [cl_of hy, ho.1 k (by omega), w3]
      refine zH_ite (fun q => ?_) (fun q => ?_)
      · exact zH_some (Or.inl ⟨k, by omega, nI_of' hy, (WD_c w1 (by omega)).mp q.symm⟩)
      · refine zH_lt (fun x e2 => ?_)
        have qx : x.toInt = ((k + 1 : Nat) : Int) := by rw [e2, iA hy (iL (1) (1) rfl) (by omega) (by omega)]; omega
        refine ih (k + 1) x qx (by omega) (fun j hj' => ?_) (by omega)
        rcases Nat.lt_or_ge j k with v | v
        · exact hj j v
        · rw [show j = k by omega]
          exact fun d => q ((WD_c w1 (by omega)).mpr d).symm
    · rw [if_neg w2]
      exact zH_some (Or.inr ⟨rfl, fun j _ d => w1 _ d.1⟩)
theorem cOwn {b : Nat → Nat} {n s : Nat} {g : Int} {μ : gM} (h : CS b n s g μ) (ho : OWN μ) : zH (fX7_ownWord μ) (fun v => (∃ k, k < 21 ∧ v = nI k ∧ WD b n s g k) ∨ (v = -1 ∧ ∀ k, k < 21 → ¬ WD b n s g k)) := by
  unfold fX7_ownWord
  exact cOwn_l2 h ho 100000 0 (0 : Int32) rfl (by decide) (fun j w => absurd w (by omega)) (by decide)
/-- the reference: is it that word -/
theorem mIsWord {b : Nat → Nat} {n p k : Nat} {ξ : gM} (hk : k < 21) (h : MT b n ξ) (ha : (ξ 267 4).toInt = p) (hn : p ≤ n) (hb : ξ 267 6 = 0) : zH (fX12_isWord (Wm k) ξ) (fun r => ∃ s, Skp b n p s ∧ (r.2 267 4).toInt = s ∧ MF pW ξ r.2 ∧ ((WD b n s (ξ 267 5).toInt k ∧ r.1 = 1 ∧ (r.2 267 11).toInt = wl k) ∨ (¬ WD b n s (ξ 267 5).toInt k ∧ r.1 = 0))) := by
  unfold fX12_isWord fX12_isFine
  rw [if_pos hb]
  refine zH_bd (zH_some (Q := fun v => v = 1) rfl) (fun x1 e1 => ?_)
  subst e1
  rw [if_neg (by decide)]
  refine zH_bp (mSees h ha hn) (fun x2 μ3 p3 => ?_)
  obtain ⟨s, k1, k2, k3, k4⟩ := p3
  rcases k4 with ⟨e, w1, w2, w3, w4⟩ | ⟨w1, w2⟩
  · have w2 : x2 = 1 := w2
    have w4 : μ3 267 10 = nI (eM b s (e - s)) := w4
    have w3 : (μ3 267 11).toInt = ((e - s : Nat) : Int) := w3
    rw [w2, if_neg (by decide), w4]
    refine zH_ite (fun q => ?_) (fun q => ?_)
    · have d := (WD_m w1 hk).mp q
      have es := w1.uniq d.1
      exact zH_some ⟨s, k1, k2, k3, Or.inl ⟨d, rfl, by rw [w3]; omega⟩⟩
    · exact zH_some ⟨s, k1, k2, k3, Or.inr ⟨fun d => q ((WD_m w1 hk).mpr d), rfl⟩⟩
  · have w2 : x2 = 0 := w2
    rw [w2, if_pos rfl]
    exact zH_some ⟨s, k1, k2, k3, Or.inr ⟨fun d => w1 _ d.1, rfl⟩⟩
