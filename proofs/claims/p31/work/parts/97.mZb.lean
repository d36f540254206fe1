/-! a state that is copied -/
def INR (j i : Nat) : Prop := (j = 0 ∧ i < 9) ∨ (j = 1 ∧ i = 0) ∨ (j = 2 ∧ i < 100) ∨ (j = 3 ∧ i < 2) ∨ (j = 4 ∧ i < 240) ∨ (5 ≤ j ∧ j ≤ 8 ∧ i < 5) ∨ (9 ≤ j ∧ j ≤ 13 ∧ i < 30)
theorem LOG.cp {s s' : Nat} {μ ξ μ' ξ' : gM} (h : LOG s μ ξ) (hr : ∀ j i, INR j i → μ' (s' + j) i = μ (s + j) i) (hx : ∀ i, i < 490 → ξ' 272 i = ξ 272 i) : LOG s' μ' ξ' := by
  obtain ⟨n, c, h1, h2, h3, h4, h5, h6⟩ := h
  refine ⟨n, c, h1, h2, by rw [hr 3 1 (by unfold INR; omega)]; exact h3, by rw [hr 3 0 (by unfold INR; omega)]; exact h4, by rw [hx 7 (by omega)]; exact h5, fun i j hi hj => ?_⟩
  rw [show s' + 3 + 1 = s' + 4 by omega, hr 4 _ (by unfold INR; omega), hx _ (by omega)]
  exact h6 i j hi hj
theorem EVK.cp {k : Nat} {ξ ξ' : gM} (h : EVK ξ k) (hk : k < 20) (h9 : ξ' 269 = ξ 269) (hx : ∀ i, i < 490 → ξ' 272 i = ξ 272 i) : EVK ξ' k := by
  unfold EVK atI at *
  rw [h9, hx _ (by omega), hx _ (by omega), hx _ (by omega), hx _ (by omega), hx _ (by omega)]
  exact h
theorem ST.cp {s s' g k : Nat} {lo : Int} {μ ξ μ' ξ' : gM} (h : ST s g k lo μ ξ) (hg : g < 5) (hk : k < 6) (hr : ∀ j i, INR j i → μ' (s' + j) i = μ (s + j) i) (hx : ∀ i, i < 490 → ξ' 272 i = ξ 272 i) : ST s' g k lo μ' ξ' := by
  unfold ST at *
  rw [hr 12 _ (by unfold INR; omega), hr 13 _ (by unfold INR; omega), hr 5 _ (by unfold INR; omega), hx (70 + (6 * g + k)) (by omega), hx (100 + (6 * g + k)) (by omega), hx (40 + (6 * g + k)) (by omega), hx 1 (by omega)]
  exact h
theorem GRP.cp {s s' g : Nat} {X : Nat → Prop} {lo : Nat → Int} {μ ξ μ' ξ' : gM} (h : GRP s g X lo μ ξ) (hg : g < 5) (h9 : ξ' 269 = ξ 269) (hr : ∀ j i, INR j i → μ' (s' + j) i = μ (s + j) i) (hx : ∀ i, i < 490 → ξ' 272 i = ξ 272 i) : GRP s' g X lo μ' ξ' := by
  refine ⟨fun k m hX => ?_, fun k hk m => ?_, fun k h1 h2 => ?_, ?_⟩
  · rw [h9] at m
    exact (h.1 k m hX).cp hg m.2.1 hr hx
  · rw [h9] at m
    rw [hr 5 _ (by unfold INR; omega), hx _ (by omega)]
    exact h.2.1 k hk m
  · rw [hr 5 _ (by unfold INR; omega)]
    exact h.2.2.1 k h1 h2
  · rw [hr 8 _ (by unfold INR; omega), hx _ (by omega)]
    exact h.2.2.2
theorem CTX.cp {s s' : Nat} {F F' : Prop} {c c' : Int32} {μ ξ μ' ξ' : gM} (h : CTX s F c μ ξ) (hF : F' → F) (hA : ∀ a, 4 ≤ a → a ≤ 16 → μ' a = μ a) (h9 : ξ' 269 = ξ 269) (hr : ∀ j i, INR j i → μ' (s' + j) i = μ (s + j) i) (hx : ∀ i, i < 490 → ξ' 272 i = ξ 272 i) (hc : F' → μ' (s' + 14) 4 = ξ' 267 22 + c') : CTX s' F' c' μ' ξ' := by
  obtain ⟨hn, ⟨n0, n1, n2, n3, n4, n5, n6⟩, hw, a1, a2, a3⟩ := h
  have r0 : ∀ i, i < 9 → μ' s' i = μ s i := fun i hi => hr 0 i (by unfold INR; omega)
  refine ⟨hn.fr hA h9, ⟨?_, ?_, ?_, ?_, ?_, ?_, ?_⟩, fun g k m => ?_, ?_, ?_, fun w => ?_⟩
  · rw [r0 0 (by decide), hx 0 (by decide)]; exact n0
  · rw [r0 1 (by decide), hx 1 (by decide)]; exact n1
  · rw [r0 2 (by decide), hx 2 (by decide)]; exact n2
  · rw [r0 3 (by decide), hx 3 (by decide)]; exact n3
  · rw [r0 4 (by decide), hx 4 (by decide)]; exact n4
  · rw [r0 5 (by decide), hx 9 (by decide)]; exact n5
  · rw [hx 9 (by decide)]; exact n6
  · rw [h9] at m
    have hg := m.1
    have hk := m.2.1
    rw [hr 9 _ (by unfold INR; omega), hr 10 _ (by unfold INR; omega), hr 11 _ (by unfold INR; omega), hx _ (by omega), hx 2 (by decide), h9]
    exact hw g k m
  · rw [hr 3 0 (by unfold INR; omega), hr 3 1 (by unfold INR; omega)]; exact a1
  · rw [hx 7 (by decide)]; exact a2
  · obtain ⟨f1, f2, f3, -⟩ := a3 (hF w)
    exact ⟨f1.cp hr hx, by rw [r0 6 (by decide), hx 5 (by decide)]; exact f2, by rw [r0 7 (by decide), hx 6 (by decide)]; exact f3, hc w⟩
theorem SR.cp {s s' : Nat} {F F' : Prop} {c c' : Int32} {μ ξ μ' ξ' : gM} (h : SR s F c μ ξ) (hF : F' → F) (hA : ∀ a, 4 ≤ a → a ≤ 16 → μ' a = μ a) (h9 : ξ' 269 = ξ 269) (hr : ∀ j i, INR j i → μ' (s' + j) i = μ (s + j) i) (hx : ∀ i, i < 490 → ξ' 272 i = ξ 272 i) (hc : F' → μ' (s' + 14) 4 = ξ' 267 22 + c') : SR s' F' c' μ' ξ' := by
  refine ⟨h.1.cp hF hA h9 hr hx hc, fun g hg => (h.2.1 g hg).cp hg h9 hr hx, fun g hg => ?_⟩
  have := h.2.2 g hg
  unfold CN at *
  rw [hr 6 _ (by unfold INR; omega), hr 7 _ (by unfold INR; omega), hx _ (by omega), hx _ (by omega)]
  exact this
theorem PLN.cp {s s' n : Nat} {μ ξ μ' ξ' : gM} (h : PLN s n μ ξ) (h9 : ξ' 269 = ξ 269) (hr : ∀ j i, INR j i → μ' (s' + j) i = μ (s + j) i) (hx : ∀ i, i < 490 → ξ' 272 i = ξ 272 i) : PLN s' n μ' ξ' := by
  obtain ⟨p1, p2, p3, p4, p5, p6⟩ := h
  refine ⟨p1, by rw [hr 1 0 (by unfold INR; omega)]; exact p2, by rw [hx 8 (by decide)]; exact p3, fun i hi => by rw [hr 2 i (by unfold INR; omega), hx _ (by omega)]; exact p4 i hi, fun k hk => (p5 k hk).cp (by omega) h9 hx, fun k hk => ?_⟩
  have := p6 k hk
  unfold atI at *
  rw [hx _ (by omega), hx _ (by omega)]
  exact this
theorem NX.cp {s s' n nx : Nat} {t : Int} {μ ξ μ' ξ' : gM} (h : NX s n nx t μ ξ) (hn : n ≤ 20) (hr : ∀ j i, INR j i → μ' (s' + j) i = μ (s + j) i) (hx : ∀ i, i < 490 → ξ' 272 i = ξ 272 i) : NX s' n nx t μ' ξ' := by
  obtain ⟨q1, q2, q3, q4⟩ := h
  refine ⟨q1, by rw [show μ' s' 8 = μ s 8 from hr 0 8 (by unfold INR; omega)]; exact q2, fun k hk => ?_, fun k h1 h2 => ?_⟩
  · have := q3 k hk
    unfold atI at *
    rw [hx _ (by omega)]
    exact this
  · have := q4 k h1 h2
    unfold atI at *
    rw [hx _ (by omega)]
    exact this
/-- a good state: it may be run in both; it may have been put away -/
def GD (s : Nat) (μ ξ : gM) : Prop := (∃ c n, SR s True c μ ξ ∧ PLN s n μ ξ ∧ ∃ nx, NX s n nx (tkI ξ) μ ξ) ∧ 0 ≤ tkI ξ ∧ tkI ξ ≤ 9999
/-- the reference's row in another place -/
def inW (w : Nat → Int32) (ξ : gM) : gM := fun a i => if a = 272 then w i else ξ a i
theorem inW_w {w : Nat → Int32} {ξ : gM} {i : Nat} : inW w ξ 272 i = w i := by unfold inW; rw [if_pos rfl]
theorem inW_o {w : Nat → Int32} {ξ : gM} {a : Nat} (h : a ≠ 272) : inW w ξ a = ξ a := by funext i; unfold inW; rw [if_neg h]
theorem GD.cp {s s' : Nat} {μ ξ μ' ξ' : gM} (h : GD s μ ξ) (hA : ∀ a, 4 ≤ a → a ≤ 16 → μ' a = μ a) (h9 : ξ' 269 = ξ 269) (hr : ∀ j i, INR j i → μ' (s' + j) i = μ (s + j) i) (hx : ∀ i, i < 490 → ξ' 272 i = ξ 272 i) : GD s' μ' ξ' := by
  obtain ⟨⟨c, n, h1, h2, nx, h3⟩, h4⟩ := h
  have et : tkI ξ' = tkI ξ := by unfold tkI; rw [hx 0 (by decide)]
  refine ⟨⟨μ' (s' + 14) 4 - ξ' 267 22, n, h1.cp id hA h9 hr hx (fun _ => addSub _ _), h2.cp h9 hr hx, nx, ?_⟩, by rw [et]; exact h4⟩
  rw [et]
  exact h3.cp h2.1 hr hx
/-- the state at q is alike the reference's bank b -/
def SVD (q b : Nat) (μ ξ : gM) : Prop := GD q μ (inW (fun i => ξ 273 (490 * b + i)) ξ)
theorem SVD.cp {q q' b b' : Nat} {μ ξ μ' ξ' : gM} (h : SVD q b μ ξ) (hA : ∀ a, 4 ≤ a → a ≤ 16 → μ' a = μ a) (h9 : ξ' 269 = ξ 269) (hr : ∀ j i, INR j i → μ' (q' + j) i = μ (q + j) i) (hx : ∀ i, i < 490 → ξ' 273 (490 * b' + i) = ξ 273 (490 * b + i)) : SVD q' b' μ' ξ' := by
  refine GD.cp h hA ?_ hr (fun i hi => ?_)
  · rw [inW_o (by decide), inW_o (by decide), h9]
  · rw [inW_w, inW_w, hx i hi]
theorem SVD.put {s q b : Nat} {μ ξ μ' ξ' : gM} (h : GD s μ ξ) (hA : ∀ a, 4 ≤ a → a ≤ 16 → μ' a = μ a) (h9 : ξ' 269 = ξ 269) (hr : ∀ j i, INR j i → μ' (q + j) i = μ (s + j) i) (hx : ∀ i, i < 490 → ξ' 273 (490 * b + i) = ξ 272 i) : SVD q b μ' ξ' := by
  refine GD.cp h hA ?_ hr (fun i hi => ?_)
  · rw [inW_o (by decide), h9]
  · rw [inW_w, hx i hi]
theorem SVD.get {s q b : Nat} {μ ξ μ' ξ' : gM} (h : SVD q b μ ξ) (hA : ∀ a, 4 ≤ a → a ≤ 16 → μ' a = μ a) (h9 : ξ' 269 = ξ 269) (hr : ∀ j i, INR j i → μ' (s + j) i = μ (q + j) i) (hx : ∀ i, i < 490 → ξ' 272 i = ξ 273 (490 * b + i)) : GD s μ' ξ' := by
  refine GD.cp h hA ?_ hr (fun i hi => ?_)
  · rw [inW_o (by decide), h9]
  · rw [inW_w, hx i hi]
