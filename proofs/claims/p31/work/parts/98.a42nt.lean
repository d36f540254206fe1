/-! net, plan, feed, end -/
/-- row and counters as they were, moves but for some -/
def nZ (B : Nat) (ξ ζ : gM) : Prop := nDl B ξ ζ ∧ ζ 269 = ξ 269 ∧ ζ 273 = ξ 273 ∧ (∀ i, i = 2 ∨ i = 3 ∨ i = 15 → ζ 267 i = ξ 267 i) ∧ (∀ i, i = 4 ∨ i = 8 → ζ 272 i = ξ 272 i) ∧ (0 ≤ (ζ 272 7).toInt ∧ (ζ 272 7).toInt ≤ 60)
theorem nZ.tr {A B : Nat} {a b c : gM} (h : nZ A a b) (k : nZ B b c) : nZ (A + B) a c := ⟨h.1.tr k.1, k.2.1.trans h.2.1, k.2.2.1.trans h.2.2.1, fun i hi => (k.2.2.2.1 i hi).trans (h.2.2.2.1 i hi), fun i hi => (k.2.2.2.2.1 i hi).trans (h.2.2.2.2.1 i hi), k.2.2.2.2.2⟩
theorem nZ.rf {ξ : gM} (h : 0 ≤ (ξ 272 7).toInt ∧ (ξ 272 7).toInt ≤ 60) : nZ 0 ξ ξ := ⟨nDl.rf rfl, rfl, rfl, fun _ _ => rfl, fun _ _ => rfl, h⟩
theorem nZ.le {A B : Nat} {a b : gM} (h : nZ A a b) (l : A ≤ B) : nZ B a b := ⟨h.1.le l, h.2⟩
theorem nSt88 {g cn cg ct : Nat} {o : Nat → Int32} {N : Nat} (nn : nNC o cn cg ct) (hg : g < 5) : ∀ (m k : Nat) (ξ ζ : gM), k ≤ cn → ξ 269 = o → (0 ≤ (ξ 272 7).toInt ∧ (ξ 272 7).toInt ≤ 60) → fX12_starts_l88 (fX12_starts_l78 N) m (nI g) (nI k) ξ = some ζ → ∃ χ, fX12_starts_l78 N (nI (g + 1)) χ = some ζ ∧ nZ (cn - k) ξ χ := by
  obtain ⟨⟨n6, n5, n24⟩, n0, n2, n3⟩ := nn
  intro m
  induction m with
  | zero => intro _ _ _ _ _ _ e; exact nomatch e
  | succ m ih =>
    intro k ξ ζ hk h9 h7 e
    rw [fX12_starts_l88] at e
    unfold fX12_gates at e
    rw [zBd_some, h9, n0] at e
    by_cases w : nI cn ≤ nI k
    · rw [if_pos w, zLt_eq, nI_1 g] at e
      exact ⟨ξ, e, (nZ.rf h7).le (by omega)⟩
    · rw [if_neg w] at e
      have klt : k < cn := by
        rcases Nat.lt_or_ge k cn with z | z
        · exact z
        · exact absurd ((nIle (by omega) (by omega)).mpr z) w
      have k6 : k < 6 := by omega
      have x3 : ξ 269 3 = nI ct := by rw [h9]; exact n3
      obtain ⟨x7, -, e7⟩ := bdI e
      have nx : ∀ χ, nZ 1 ξ χ → fX12_starts_l88 (fX12_starts_l78 N) m (nI g) (nI (k + 1)) χ = some ζ → ∃ χ, fX12_starts_l78 N (nI (g + 1)) χ = some ζ ∧ nZ (cn - k) ξ χ := fun χ z f => by
        obtain ⟨ω, r1, r2⟩ := ih (k + 1) χ ζ (by omega) (z.2.1.trans h9) z.2.2.2.2.2 f
        exact ⟨ω, r1, (z.tr r2).le (by omega)⟩
      split at e7
      · rw [zLt_eq, nI_1 k] at e7
        exact nx ξ ((nZ.rf h7).le (by omega)) e7
      · rw [mWord hg k6 x3 n24, zBd_some] at e7
        split at e7
        · obtain ⟨χ1, e1, hb⟩ := mHold (ξ := ξ) hg k6 h7
          rw [e1, zBd_some, zLt_eq, nI_1 k] at e7
          obtain ⟨nb, mv⟩ := hb.nb
          exact nx χ1 ⟨⟨1, Nat.le_refl _, mv⟩, nb.1 269 (by decide) (by decide), nb.1 273 (by decide) (by decide), fun i hi => nb.2.1 i (by omega), fun i hi => nb.2.2.1 i (by omega) (by omega) (by omega) (by omega) (by omega) (by omega), nb.2.2.2⟩ e7
        · obtain ⟨χ1, e1, w1, w2, -⟩ := mWait (ξ := ξ) hg k6 x3 n24
          rw [e1, zBd_some, zLt_eq, nI_1 k] at e7
          exact nx χ1 ⟨nDl.rf (by rw [w1 267 (by decide)]), w1 269 (by decide), w1 273 (by decide), fun i _ => by rw [w1 267 (by decide)], fun i hi => w2 i (by omega) (by omega) (by omega), by rw [w2 7 (by omega) (by omega) (by omega)]; exact h7⟩ e7
theorem nSt78 {cn cg ct : Nat} {o : Nat → Int32} (nn : nNC o cn cg ct) : ∀ (m g : Nat) (ξ ζ : gM), g ≤ cg → ξ 269 = o → (0 ≤ (ξ 272 7).toInt ∧ (ξ 272 7).toInt ≤ 60) → fX12_starts_l78 m (nI g) ξ = some ζ → nZ (6 * (cg - g)) ξ ζ := by
  have nn' := nn
  obtain ⟨⟨n6, n5, n24⟩, n0, n2, n3⟩ := nn'
  intro m
  induction m with
  | zero => intro _ _ _ _ _ _ e; exact nomatch e
  | succ m ih =>
    intro g ξ ζ hg h9 h7 e
    rw [fX12_starts_l78] at e
    unfold fX12_groups at e
    rw [zBd_some, h9, n2] at e
    by_cases w : nI cg ≤ nI g
    · rw [if_pos w] at e
      obtain rfl := Option.some.inj e
      exact (nZ.rf h7).le (by omega)
    · rw [if_neg w] at e
      have glt : g < cg := by
        rcases Nat.lt_or_ge g cg with z | z
        · exact z
        · exact absurd ((nIle (by omega) (by omega)).mpr z) w
      rw [show (0 : Int32) = nI 0 from rfl] at e
      obtain ⟨χ, r1, r2⟩ := nSt88 nn (by omega) _ 0 ξ ζ (Nat.zero_le _) h9 h7 e
      exact (r2.tr (ih (g + 1) χ ζ (by omega) (r2.2.1.trans h9) r2.2.2.2.2.2 r1)).le (by omega)
theorem nSt32 {cn cg ct : Nat} {o : Nat → Int32} (nn : nNC o cn cg ct) : ∀ (m k : Nat) (ξ ζ : gM), k ≤ 30 → ξ 269 = o → (0 ≤ (ξ 272 7).toInt ∧ (ξ 272 7).toInt ≤ 60) → fX12_starts_l32 m (nI k) ξ = some ζ → nZ 30 ξ ζ := by
  intro m
  induction m with
  | zero => intro _ _ _ _ _ _ e; exact nomatch e
  | succ m ih =>
    intro k ξ ζ hk h9 h7 e
    rw [fX12_starts_l32] at e
    by_cases w : (30 : Int32) ≤ nI k
    · rw [if_pos w] at e
      unfold fX12_gates at e
      rw [zBd_some, zLt_eq] at e
      rw [show (0 : Int32) = nI 0 from rfl] at e
      have r := nSt78 nn _ 0 _ ζ (Nat.zero_le _) (by rw [zUp_ne _ (by decide)]; exact h9) (by rw [zUp_slot _ (by decide)]; exact h7) e
      have z : nZ 0 ξ (gUp ξ 272 1 (((1 : Int32) <<< (ξ 269 0 &&& 31)) - (1 : Int32))) := ⟨nDl.rf (by rw [zUp_ne _ (by decide)]), zUp_ne _ (by decide), zUp_ne _ (by decide), fun i _ => by rw [zUp_ne _ (by decide)], fun i hi => zUp_slot _ (by omega), by rw [zUp_slot _ (by decide)]; exact h7⟩
      exact (z.tr r).le (by have := nn.1.2.1; omega)
    · rw [if_neg w] at e
      have klt : k < 30 := by
        rcases Nat.lt_or_ge k 30 with z | z
        · exact z
        · exact absurd ((nIle (a := 30) (by omega) (by omega)).mpr z) w
      have e := ckI (ckI e)
      have j10 : ((10 : Int32) + nI k).toNatClampNeg = 10 + k := by rw [show (10 : Int32) = nI 10 from rfl, nI_add, nI_clamp (by omega)]
      rw [zLt_eq, zLt_eq, nI_1 k, j10] at e
      have z : ∀ v, nZ 0 ξ (gUp ξ 272 (10 + k) v) := fun v => ⟨nDl.rf (by rw [zUp_ne _ (by decide)]), zUp_ne _ (by decide), zUp_ne _ (by decide), fun i _ => by rw [zUp_ne _ (by decide)], fun i hi => zUp_slot _ (by omega), by rw [zUp_slot _ (by omega)]; exact h7⟩
      have r := ih (k + 1) _ ζ (by omega) ((z _).2.1.trans h9) (z _).2.2.2.2.2 e
      exact ((z _).tr r).le (by omega)
theorem nSt2 {cn cg ct : Nat} {o : Nat → Int32} (nn : nNC o cn cg ct) : ∀ (m k : Nat) (ξ ζ : gM), k ≤ 490 → ξ 269 = o → (∀ i, i < k → ξ 272 i = 0) → fX12_starts_l2 m (nI k) ξ = some ζ → nDl 30 ξ ζ ∧ ζ 269 = o ∧ ζ 273 = ξ 273 ∧ (∀ i, i = 2 ∨ i = 3 ∨ i = 15 → ζ 267 i = ξ 267 i) ∧ ζ 272 4 = 0 ∧ ζ 272 8 = 0 := by
  intro m
  induction m with
  | zero => intro _ _ _ _ _ _ e; exact nomatch e
  | succ m ih =>
    intro k ξ ζ hk h9 hz e
    rw [fX12_starts_l2] at e
    by_cases w : (490 : Int32) ≤ nI k
    · rw [if_pos w, zLt_eq] at e
      have k49 := (nIle (a := 490) (by omega) (by omega)).mp w
      rw [show (0 : Int32) = nI 0 from rfl] at e
      have r := nSt32 nn _ 0 _ ζ (Nat.zero_le _) (by rw [zUp_ne _ (by decide)]; exact h9) (by rw [zUp_slot _ (by decide), hz 7 (by omega)]; decide) e
      obtain ⟨⟨d, d1, d2⟩, r2, r3, r4, r5, -⟩ := r
      exact ⟨⟨d, d1, by rw [d2, zUp_ne _ (by decide)]⟩, by rw [r2, zUp_ne _ (by decide)]; exact h9, by rw [r3, zUp_ne _ (by decide)], fun i hi => by rw [r4 i hi, zUp_ne _ (by decide)], by rw [r5 4 (Or.inl rfl), zUp_slot _ (by decide)]; exact hz 4 (by omega), by rw [r5 8 (Or.inr rfl), zUp_slot _ (by decide)]; exact hz 8 (by omega)⟩
    · rw [if_neg w] at e
      have klt : k < 490 := by
        rcases Nat.lt_or_ge k 490 with z | z
        · exact z
        · exact absurd ((nIle (a := 490) (by omega) (by omega)).mpr z) w
      have e := ckI e
      rw [zLt_eq, zLt_eq, nI_1 k, nI_clamp (by omega)] at e
      obtain ⟨⟨d, d1, d2⟩, r2, r3, r4, r5⟩ := ih (k + 1) _ ζ (by omega) (by rw [zUp_ne _ (by decide)]; exact h9) (fun i hi => by
        by_cases c : i = k
        · subst c; exact zUp_same _ _ _ _
        · rw [zUp_slot _ c]; exact hz i (by omega)) e
      exact ⟨⟨d, d1, by rw [d2, zUp_ne _ (by decide)]⟩, r2, by rw [r3, zUp_ne _ (by decide)], fun i hi => by rw [r4 i hi, zUp_ne _ (by decide)], r5⟩
theorem nL103 : ∀ (m k : Nat) (v : Int32) (ξ ζ : gM), k ≤ 209 → (∀ i, i < k → ξ 269 i = ξ 270 i) → fX12_net_l103 m (nI k) ξ = some (v, ζ) → ∃ χ, fX12_starts χ = some ζ ∧ (∀ i, i < 209 → χ 269 i = ξ 270 i) ∧ (∀ a, a ≠ 267 → a ≠ 269 → a ≠ 274 → χ a = ξ a) ∧ ∀ i, i ≠ 15 → i ≠ 20 → χ 267 i = ξ 267 i := by
  intro m
  induction m with
  | zero => intro _ _ _ _ _ _ e; exact nomatch e
  | succ m ih =>
    intro k v ξ ζ hk hc e
    rw [fX12_net_l103] at e
    by_cases w : (209 : Int32) ≤ nI k
    · have k9 := (nIle (a := 209) (by omega) (by omega)).mp w
      rw [if_pos w, zLt_eq, zLt_eq, zLt_eq, zLt_eq] at e
      obtain ⟨μ10, p, e2⟩ := bdI e
      obtain ⟨-, rfl⟩ := Prod.mk.inj (Option.some.inj e2)
      refine ⟨_, p, fun i hi => ?_, fun a h1 h2 h3 => ?_, fun i h1 h2 => ?_⟩
      · rw [zUp_ne _ (by decide), zUp_ne _ (by decide), zUp_ne _ (by decide), zUp_ne _ (by decide)]
        exact hc i (by omega)
      · rw [zUp_ne _ h3, zUp_ne _ h3, zUp_ne _ h1, zUp_ne _ h1]
      · rw [zUp_ne _ (by decide), zUp_ne _ (by decide), zUp_slot _ h2, zUp_slot _ h1]
    · rw [if_neg w] at e
      have klt : k < 209 := by
        rcases Nat.lt_or_ge k 209 with z | z
        · exact z
        · exact absurd ((nIle (a := 209) (by omega) (by omega)).mpr z) w
      have e := ckI (ckI e)
      rw [zLt_eq, zLt_eq, nI_1 k, nI_clamp (by omega)] at e
      obtain ⟨χ, r1, r2, r3, r4⟩ := ih (k + 1) v _ ζ (by omega) (fun i hi => by
        rw [zUp_ne (b := 270) _ (by decide)]
        by_cases c : i = k
        · subst c; exact zUp_same _ _ _ _
        · rw [zUp_slot _ c]; exact hc i (by omega)) e
      exact ⟨χ, r1, fun i hi => by rw [r2 i hi, zUp_ne _ (by decide)], fun a h1 h2 h3 => by rw [r3 a h1 h2 h3, zUp_ne _ h2], fun i h1 h2 => by rw [r4 i h1 h2, zUp_ne _ (by decide)]⟩
theorem nIsR {v : Int32} {ξ ζ : gM} (e : fX12_isRead ξ = some (v, ζ)) : ((v = 0 ∧ ξ 267 6 ≠ 0) ∨ (v ≠ 0 ∧ ξ 267 6 = 0)) ∧ (∀ a, a ≠ 267 → ζ a = ξ a) ∧ ∀ i, i ≠ 8 → i ≠ 9 → ζ 267 i = ξ 267 i := by
  unfold fX12_isRead at e
  rw [zLt_eq] at e
  have n24 : ∀ (z w : Int32) (χ : gM), χ 267 6 = ξ 267 6 → (∀ a, a ≠ 267 → χ a = ξ a) → (∀ i, i ≠ 8 → i ≠ 9 → χ 267 i = ξ 267 i) → fX12_isRead_n24 z χ = some (v, ζ) → ((v = 0 ∧ ξ 267 6 ≠ 0) ∨ (v ≠ 0 ∧ ξ 267 6 = 0)) ∧ (∀ a, a ≠ 267 → ζ a = ξ a) ∧ ∀ i, i ≠ 8 → i ≠ 9 → ζ 267 i = ξ 267 i := fun z w χ h6 ha hi g => by
    unfold fX12_isRead_n24 at g
    rw [zLt_eq, zUp_slot _ (show (6 : Nat) ≠ 9 by decide), h6] at g
    have fr : (∀ a, a ≠ 267 → gUp χ 267 9 z a = ξ a) ∧ ∀ i, i ≠ 8 → i ≠ 9 → gUp χ 267 9 z 267 i = ξ 267 i := ⟨fun a h => by rw [zUp_ne _ h]; exact ha a h, fun i h8 h9 => by rw [zUp_slot _ h9]; exact hi i h8 h9⟩
    by_cases c : ξ 267 6 = 0
    · rw [if_pos c] at g
      obtain ⟨rfl, rfl⟩ := Prod.mk.inj (Option.some.inj g)
      exact ⟨Or.inr ⟨by decide, c⟩, fr⟩
    · rw [if_neg c] at g
      obtain ⟨rfl, rfl⟩ := Prod.mk.inj (Option.some.inj g)
      exact ⟨Or.inl ⟨rfl, c⟩, fr⟩
  have fa : ∀ a, a ≠ 267 → gUp ξ 267 8 (ξ 267 6) a = ξ a := fun a h => zUp_ne _ h
  have fi : ∀ i, i ≠ 8 → i ≠ 9 → gUp ξ 267 8 (ξ 267 6) 267 i = ξ 267 i := fun i h _ => zUp_slot _ h
  split at e
  · exact n24 _ 0 _ (zUp_slot _ (by decide)) fa fi e
  · exact n24 _ 0 _ (zUp_slot _ (by decide)) fa fi e
/-- a net told: refused, or a new one -/
theorem nNetE {b : Nat → Nat} {tp : Nat} {v : Int32} {ξ ζ : gM} (h2 : ξ 267 2 = nI tp) (t15 : tp ≤ 1500) (mt : ∀ χ : gM, χ 268 = ξ 268 → χ 267 3 = ξ 267 2 → MT b tp χ) (e : fX12_net ξ = some (v, ζ)) : ζ 267 2 = 0 ∧ ζ 273 = ξ 273 ∧ nDl 30 ξ ζ ∧ ((ζ 269 = ξ 269 ∧ ζ 272 = ξ 272) ∨ (nLo (ζ 269) ≤ tp ∧ ζ 272 4 = 0 ∧ ζ 272 8 = 0)) := by
  unfold fX12_net at e
  rw [zLt_eq] at e
  obtain ⟨μ2, p2, e2⟩ := bdI e
  obtain ⟨ζ', p2', f1, f2, f3, f4, f5, f6, f7, -, -⟩ := mBegins (ξ := gUp ξ 267 0 0)
  rw [p2] at p2'
  obtain rfl := Option.some.inj p2'
  obtain ⟨χ, p3, g1, g2, -⟩ := mZero 100000 0 0 μ2 rfl (Nat.zero_le _) (by omega)
  rw [p3] at e2
  have o : ∀ a, a ≠ 267 → a ≠ 270 → χ a = ξ a := fun a ha hb => by rw [g1 a hb, f1 a ha, zUp_ne _ ha]
  have x267 : χ 267 = μ2 267 := g1 267 (by decide)
  have q0 : nQ χ := fun _ => by
    have m := mt χ (o 268 (by decide) (by decide)) (by rw [x267, f4, zUp_slot _ (by decide)])
    refine ⟨⟨b, tp, 0, m, by rw [x267, f5]; rfl, Nat.zero_le _, by rw [x267, f6]; decide⟩, 0, 0, 0, 0, ⟨⟨g2 0 (by decide) (by decide), g2 1 (by decide) (by decide), g2 2 (by decide) (by decide), g2 3 (by decide) (by decide)⟩, by decide, by decide, by decide, by decide⟩, ?_⟩
    have z : nMc (χ 270) = 0 := lq_rw_0 (fun j hj => by rw [g2 _ (Nat.zero_le _) (by omega)]; exact bt_zero _)
    rw [z, x267, f5]
    decide
  obtain ⟨ω, n92, nf, q⟩ := nNetL _ _ _ _ _ e2 q0
  have c22 : μ2 267 22 = ξ 267 22 := by rw [f2 22 (by decide) (by decide) (by unfold pF; decide), zUp_slot _ (by decide)]
  have oω : ∀ a, a ≠ 267 → a ≠ 270 → a ≠ 271 → ω a = ξ a := fun a h1 h2 h3 => (nf.1 a h1 h2 h3).trans (o a h1 h2)
  have w2 : ω 267 2 = 0 := by rw [nf.2 2 (by unfold nC5; decide), x267]; exact f3
  have w22 : ω 267 22 = ξ 267 22 := by rw [nf.2 22 (by unfold nC5; decide), x267]; exact c22
  have w3 : ω 267 3 = nI tp := by rw [nf.2 3 (by unfold nC5; decide), x267, f4, zUp_slot _ (by decide)]; exact h2
  unfold fX12_net_n92 at n92
  obtain ⟨x4, μ5, p5, e5⟩ := bpI n92
  obtain ⟨alt, r1, r2⟩ := nIsR p5
  by_cases c : x4 = 0
  · rw [if_pos c] at e5
    obtain ⟨-, rfl⟩ := Prod.mk.inj (Option.some.inj e5)
    exact ⟨by rw [r2 2 (by decide) (by decide)]; exact w2, by rw [r1 273 (by decide)]; exact oω 273 (by decide) (by decide) (by decide), nDl.rf (by rw [r2 22 (by decide) (by decide)]; exact w22), Or.inl ⟨by rw [r1 269 (by decide)]; exact oω 269 (by decide) (by decide) (by decide), by rw [r1 272 (by decide)]; exact oω 272 (by decide) (by decide) (by decide)⟩⟩
  · rw [if_neg c] at e5
    have wf : ω 267 6 = 0 := by
      rcases alt with ⟨z, -⟩ | ⟨-, z⟩
      · exact absurd z c
      · exact z
    obtain ⟨⟨b', n', p', mt', at', pn', -⟩, c0, c1, c2, c3, ⟨⟨s0, s1, s2, s3⟩, b0, b1, b2, b3⟩, bb⟩ := q wf
    rw [show (0 : Int32) = nI 0 from rfl] at e5
    obtain ⟨ψ, st, u1, u2, u3⟩ := nL103 _ 0 _ _ _ (Nat.zero_le _) (fun i hi => absurd hi (Nat.not_lt_zero _)) e5
    have r70 : μ5 270 = ω 270 := r1 270 (by decide)
    have k9 : ∀ i, i < 209 → ψ 269 i = ω 270 i := fun i hi => by rw [u1 i hi, r70]
    have nn : nNC (ψ 269) c0 c2 c3 := ⟨⟨b0, b2, b3⟩, by rw [k9 0 (by decide)]; exact s0, by rw [k9 2 (by decide)]; exact s2, by rw [k9 3 (by decide)]; exact s3⟩
    unfold fX12_starts at st
    rw [show (0 : Int32) = nI 0 from rfl] at st
    obtain ⟨d, t2, t3, t4, t5, t6⟩ := nSt2 nn _ 0 ψ ζ (Nat.zero_le _) rfl (fun i hi => absurd hi (Nat.not_lt_zero _)) st
    have n3 : (n' : Int) = tp := by
      have := mt'.1
      rw [w3, tN (by omega)] at this
      omega
    refine ⟨by rw [t4 2 (Or.inl rfl), u3 2 (by decide) (by decide), r2 2 (by decide) (by decide)]; exact w2, by rw [t3, u2 273 (by decide) (by decide) (by decide), r1 273 (by decide)]; exact oω 273 (by decide) (by decide) (by decide), ?_, Or.inr ⟨?_, t5, t6⟩⟩
    · obtain ⟨d, d1, d2⟩ := d
      exact ⟨d, d1, by rw [d2, u3 22 (by decide) (by decide), r2 22 (by decide) (by decide), w22]⟩
    · rw [t2]
      have mc : nMc (ψ 269) = nMc (ω 270) := nMc_cg (fun i _ h2 => k9 i (by omega))
      unfold nLo
      rw [mc, k9 0 (by decide), k9 2 (by decide), k9 3 (by decide), s0, s2, s3, tN (by omega), tN (by omega), tN (by omega)]
      omega
/-- a plan told -/
theorem nPlanE {b : Nat → Nat} {tp E cnt : Nat} {v : Int32} {ξ ζ : gM} (h2 : ξ 267 2 = nI tp) (t15 : tp ≤ 1500) (mt : ∀ χ : gM, χ 268 = ξ 268 → χ 267 3 = ξ 267 2 → MT b tp χ) (h20 : ξ 267 20 = nI cnt) (hc : cnt ≤ 12) (bk : nBK E ξ) (e : fX12_plan ξ = some (v, ζ)) : ζ 267 2 = 0 ∧ ζ 269 = ξ 269 ∧ ζ 267 22 = ξ 267 22 ∧ ∃ E', 10 * E' ≤ 10 * E + tp ∧ nBK E' ζ := by
  unfold fX12_plan at e
  rw [zLt_eq] at e
  split at e
  · rw [zLt_eq] at e
    obtain ⟨-, rfl⟩ := Prod.mk.inj (Option.some.inj e)
    exact ⟨zUp_same _ _ _ _, by rw [zUp_ne _ (by decide), zUp_ne _ (by decide)], by rw [zUp_slot _ (by decide), zUp_slot _ (by decide)], E, by omega, bk.u0.u0⟩
  · obtain ⟨μ2, p2, e2⟩ := bdI e
    obtain ⟨ζ', p2', f1, f2, f3, f4, f5, f6, f7, -, -⟩ := mBegins (ξ := gUp ξ 267 0 0)
    rw [p2] at p2'
    obtain rfl := Option.some.inj p2'
    have o : ∀ a, a ≠ 267 → μ2 a = ξ a := fun a ha => by rw [f1 a ha, zUp_ne _ ha]
    have q0 : nEQ 0 μ2 := fun _ => by
      have m := mt μ2 (o 268 (by decide)) (by rw [f4, zUp_slot _ (by decide)])
      exact ⟨⟨b, tp, 0, m, by rw [f5]; rfl, Nat.zero_le _, by rw [f6]; decide⟩, by rw [f5]; decide, by decide⟩
    rw [show (0 : Int32) = nI 0 from rfl] at e2
    obtain ⟨ω, n', n51, nf, q⟩ := nPlanL _ 0 _ _ _ e2 q0
    have c22 : μ2 267 22 = ξ 267 22 := by rw [f2 22 (by decide) (by decide) (by unfold pF; decide), zUp_slot _ (by decide)]
    have c20 : μ2 267 20 = ξ 267 20 := by rw [f2 20 (by decide) (by decide) (by unfold pF; decide), zUp_slot _ (by decide)]
    have oω : ∀ a, a ≠ 267 → a ≠ 270 → a ≠ 271 → ω a = ξ a := fun a h1 h2 h3 => (nf.1 a h1 h2 h3).trans (o a h1)
    have w2 : ω 267 2 = 0 := by rw [nf.2 2 (by unfold nC5; decide)]; exact f3
    have w22 : ω 267 22 = ξ 267 22 := by rw [nf.2 22 (by unfold nC5; decide)]; exact c22
    have w20 : ω 267 20 = ξ 267 20 := by rw [nf.2 20 (by unfold nC5; decide)]; exact c20
    have w3 : ω 267 3 = nI tp := by rw [nf.2 3 (by unfold nC5; decide), f4, zUp_slot _ (by decide)]; exact h2
    have bkω : nBK E ω := bk.fr (fun i _ => by rw [oω 272 (by decide) (by decide) (by decide)]) (fun i _ => by rw [oω 273 (by decide) (by decide) (by decide)])
    unfold fX12_plan_n51 at n51
    obtain ⟨x4, μ5, p5, e5⟩ := bpI n51
    obtain ⟨alt, r1, r2⟩ := nIsR p5
    have bk5 : nBK E μ5 := bkω.fr (fun i _ => by rw [r1 272 (by decide)]) (fun i _ => by rw [r1 273 (by decide)])
    by_cases c : x4 = 0
    · rw [if_pos c] at e5
      obtain ⟨-, rfl⟩ := Prod.mk.inj (Option.some.inj e5)
      exact ⟨by rw [r2 2 (by decide) (by decide)]; exact w2, by rw [r1 269 (by decide)]; exact oω 269 (by decide) (by decide) (by decide), by rw [r2 22 (by decide) (by decide)]; exact w22, E, by omega, bk5⟩
    · rw [if_neg c] at e5
      have wf : ω 267 6 = 0 := by
        rcases alt with ⟨z, -⟩ | ⟨-, z⟩
        · exact absurd z c
        · exact z
      obtain ⟨⟨b', n3, p', mt', at', pn', -⟩, bb, n20⟩ := q wf
      obtain ⟨μ6, p6, e6⟩ := bdI e5
      rw [zLt_eq] at e6
      obtain ⟨b6, k1, k2⟩ := nKp (by rw [r2 20 (by decide) (by decide), w20]; exact h20) hc p6 bk5
      rw [show (0 : Int32) = nI 0 from rfl] at e6
      obtain ⟨ξ', m1, m2, -, m4⟩ := mPl74 n20 100000 0 (gUp μ6 272 8 (nI n')) (Nat.zero_le _) (by omega)
      rw [m1] at e6
      obtain ⟨-, rfl⟩ := Prod.mk.inj (Option.some.inj e6)
      have n3' : (n3 : Int) = tp := by
        have := mt'.1
        rw [w3, tN (by omega)] at this
        omega
      refine ⟨by rw [m2 267 (by decide), zUp_ne _ (by decide), k2 2 (by decide), r2 2 (by decide) (by decide)]; exact w2, by rw [m2 269 (by decide), zUp_ne _ (by decide), k1 269 (by decide) (by decide), r1 269 (by decide)]; exact oω 269 (by decide) (by decide) (by decide), by rw [m2 267 (by decide), zUp_ne _ (by decide), k2 22 (by decide), r2 22 (by decide) (by decide)]; exact w22, max E n', by omega, ?_⟩
      have b6' := b6.le (E' := max E n') (by omega)
      refine b6'.w ⟨?_, ?_⟩ (by rw [m2 273 (by decide), zUp_ne _ (by decide)])
      · rw [m4 4 (by omega), zUp_slot _ (by decide)]; exact b6'.1.1
      · rw [m4 8 (by omega), zUp_same, tN (by omega)]; omega
theorem nFeedE {tp : Nat} {a b c d f v : Int32} {ξ ζ : gM} (h2 : ξ 267 2 = nI tp) (t15 : tp ≤ 1500) (e : fX12_feed a b c d f ξ = some (v, ζ)) : FQ2 ξ ζ ∧ ∃ tp', ζ 267 2 = nI tp' ∧ tp' ≤ 1500 ∧ tp' ≤ tp + 20 := by
  refine ⟨vqX12_feed (m := ξ) ⟨fun _ _ _ => rfl, fun _ _ _ => rfl⟩ _ e, ?_⟩
  unfold fX12_feed at e
  rw [zLt_eq, zUp_slot _ (show (2 : Nat) ≠ 0 by decide), h2] at e
  have s20 : nI tp + (20 : Int32) = nI (tp + 20) := by rw [show (20 : Int32) = nI 20 from rfl, nI_add]
  rw [s20] at e
  by_cases w : nI (tp + 20) ≤ 1500
  · have l := Int32.le_iff_toInt_le.mp w
    rw [tN (by omega), show (1500 : Int32).toInt = 1500 from rfl] at l
    rw [if_pos w] at e
    have z0 : gUp ξ 267 0 0 267 2 = nI tp := by rw [zUp_slot _ (by decide)]; exact h2
    rw [puts_c z0 (by omega), zBd_some] at e
    have z1 := gPu_len (gPu (gPu (gPu (gUp ξ 267 0 0) tp (a >>> (24 &&& 31)).toInt8.toInt32) (tp + 1) (a >>> (16 &&& 31)).toInt8.toInt32) (tp + 2) (a >>> (8 &&& 31)).toInt8.toInt32) (tp + 3) (a >>> (0 &&& 31)).toInt8.toInt32
    generalize gPu (gPu (gPu (gPu (gUp ξ 267 0 0) tp (a >>> (24 &&& 31)).toInt8.toInt32) (tp + 1) (a >>> (16 &&& 31)).toInt8.toInt32) (tp + 2) (a >>> (8 &&& 31)).toInt8.toInt32) (tp + 3) (a >>> (0 &&& 31)).toInt8.toInt32 = χ1 at e z1
    rw [puts_c z1 (by omega), zBd_some] at e
    have z2 := gPu_len (gPu (gPu (gPu χ1 (tp + 3 + 1) (b >>> (24 &&& 31)).toInt8.toInt32) (tp + 3 + 1 + 1) (b >>> (16 &&& 31)).toInt8.toInt32) (tp + 3 + 1 + 2) (b >>> (8 &&& 31)).toInt8.toInt32) (tp + 3 + 1 + 3) (b >>> (0 &&& 31)).toInt8.toInt32
    generalize gPu (gPu (gPu (gPu χ1 (tp + 3 + 1) (b >>> (24 &&& 31)).toInt8.toInt32) (tp + 3 + 1 + 1) (b >>> (16 &&& 31)).toInt8.toInt32) (tp + 3 + 1 + 2) (b >>> (8 &&& 31)).toInt8.toInt32) (tp + 3 + 1 + 3) (b >>> (0 &&& 31)).toInt8.toInt32 = χ2 at e z2
    rw [puts_c z2 (by omega), zBd_some] at e
    have z3 := gPu_len (gPu (gPu (gPu χ2 (tp + 3 + 1 + 3 + 1) (c >>> (24 &&& 31)).toInt8.toInt32) (tp + 3 + 1 + 3 + 1 + 1) (c >>> (16 &&& 31)).toInt8.toInt32) (tp + 3 + 1 + 3 + 1 + 2) (c >>> (8 &&& 31)).toInt8.toInt32) (tp + 3 + 1 + 3 + 1 + 3) (c >>> (0 &&& 31)).toInt8.toInt32
    generalize gPu (gPu (gPu (gPu χ2 (tp + 3 + 1 + 3 + 1) (c >>> (24 &&& 31)).toInt8.toInt32) (tp + 3 + 1 + 3 + 1 + 1) (c >>> (16 &&& 31)).toInt8.toInt32) (tp + 3 + 1 + 3 + 1 + 2) (c >>> (8 &&& 31)).toInt8.toInt32) (tp + 3 + 1 + 3 + 1 + 3) (c >>> (0 &&& 31)).toInt8.toInt32 = χ3 at e z3
    rw [puts_c z3 (by omega), zBd_some] at e
    have z4 := gPu_len (gPu (gPu (gPu χ3 (tp + 3 + 1 + 3 + 1 + 3 + 1) (d >>> (24 &&& 31)).toInt8.toInt32) (tp + 3 + 1 + 3 + 1 + 3 + 1 + 1) (d >>> (16 &&& 31)).toInt8.toInt32) (tp + 3 + 1 + 3 + 1 + 3 + 1 + 2) (d >>> (8 &&& 31)).toInt8.toInt32) (tp + 3 + 1 + 3 + 1 + 3 + 1 + 3) (d >>> (0 &&& 31)).toInt8.toInt32
    generalize gPu (gPu (gPu (gPu χ3 (tp + 3 + 1 + 3 + 1 + 3 + 1) (d >>> (24 &&& 31)).toInt8.toInt32) (tp + 3 + 1 + 3 + 1 + 3 + 1 + 1) (d >>> (16 &&& 31)).toInt8.toInt32) (tp + 3 + 1 + 3 + 1 + 3 + 1 + 2) (d >>> (8 &&& 31)).toInt8.toInt32) (tp + 3 + 1 + 3 + 1 + 3 + 1 + 3) (d >>> (0 &&& 31)).toInt8.toInt32 = χ4 at e z4
    rw [puts_c z4 (by omega), zBd_some] at e
    obtain ⟨-, rfl⟩ := Prod.mk.inj (Option.some.inj e)
    exact ⟨tp + 3 + 1 + 3 + 1 + 3 + 1 + 3 + 1 + 3 + 1, gPu_len _ _ _, by omega, by omega⟩
  · rw [if_neg w] at e
    obtain ⟨-, rfl⟩ := Prod.mk.inj (Option.some.inj e)
    exact ⟨tp, by rw [zUp_slot _ (by decide)]; exact h2, t15, by omega⟩
theorem nEndE {tp : Nat} {a v : Int32} {ξ ζ : gM} (h2 : ξ 267 2 = nI tp) (t15 : tp ≤ 1500) (e : fX12_end a ξ = some (v, ζ)) : FQ2 ξ ζ ∧ ∃ tp', ζ 267 2 = nI tp' ∧ tp' ≤ 1500 ∧ tp' ≤ tp := by
  refine ⟨vqX12_end (m := ξ) ⟨fun _ _ _ => rfl, fun _ _ _ => rfl⟩ _ e, ?_⟩
  unfold fX12_end at e
  rw [zLt_eq] at e
  obtain ⟨x2, i2, e2⟩ := bdI e
  have z0 : gUp ξ 267 0 0 267 2 = nI tp := by rw [zUp_slot _ (by decide)]; exact h2
  by_cases c : x2 = 0
  · rw [if_pos c] at e2
    obtain ⟨-, rfl⟩ := Prod.mk.inj (Option.some.inj e2)
    exact ⟨tp, z0, t15, Nat.le_refl _⟩
  · rw [if_neg c, zLt_eq] at e2
    obtain ⟨-, rfl⟩ := Prod.mk.inj (Option.some.inj e2)
    have b := nIsI (y := 0) (z := (tp : Int)) rfl (by rw [z0, Int32.toInt_toInt64, tN (by omega)]) i2 c
    obtain ⟨k, hk, -, rfl⟩ := spanG (M := tp) (by omega) (by decide) b
    exact ⟨k, zUp_same _ _ _ _, by omega, hk⟩
