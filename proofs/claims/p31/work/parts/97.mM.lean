/-! words told anew, links cut -/
theorem ediv6 {g k : Nat} (hg : g < 5) (hk : k < 6) : nI (6 * g + k) / (6 : Int32) = nI g := by
  rw [show (6 : Int32) = nI 6 from rfl, pk_div (by omega) (by decide) (by decide), show (6 * g + k) / 6 = g by omega]
def wgt (μ : gM) (g : Nat) (w : Int32) : Int32 := ((μ 7 g) * ((256 : Int32) - w)) / (256 : Int32)
theorem cWeigh {s g k : Nat} {μ ξ : gM} (hg : g < 5) (hk : k < 6) (hs : 34 ≤ s) (n : NET μ ξ) : ∃ μ', fX10_weigh s (nI (6 * g + k)) μ = some μ' ∧ (∀ a, a ≠ s + 10 → a ≠ s + 11 → μ' a = μ a) ∧ μ' (s + 10) = upd (μ (s + 10)) (6 * g + k) (wv (ξ 269) (μ s 2) (μ (s + 9) (6 * g + k)) g k) ∧ μ' (s + 11) = upd (μ (s + 11)) (6 * g + k) (wgt μ g (wv (ξ 269) (μ s 2) (μ (s + 9) (6 * g + k)) g k)) := by
  have gm : gIn (nI (6 * g + k)) 30 = true := gI (by omega) (by decide)
  have cm : (nI (6 * g + k)).toNatClampNeg = 6 * g + k := nI_clamp (by omega)
  have gg : gIn (nI g) 5 = true := gI hg (by decide)
  have cgg : (nI g).toNatClampNeg = g := nI_clamp (by omega)
  unfold fX10_weigh
  unfold zCk
  rw [if_pos gm, cm, cWord hg hk n, zBd_some, if_pos gm, zLt_eq, ediv6 hg hk, if_pos gg, if_pos gm, cgg, zLt_eq]
  refine ⟨_, rfl, fun a h1 h2 => by rw [zUp_ne _ h2, zUp_ne _ h1], ?_, ?_⟩
  · rw [zUp_ne _ (by omega), zUp_row]
  · rw [zUp_row, zUp_ne _ (by omega), zUp_ne _ (show (7 : Nat) ≠ s + 10 by omega)]
    rfl
theorem cCuts_l {s : Nat} {ξ : gM} (hs : 34 ≤ s) : ∀ (m j : Nat) (μ : gM), NET μ ξ → j ≤ 30 → 30 < j + m → ∃ μ', fX10_setCuts_l10 s m (nI j) μ = some μ' ∧ (∀ a, a ≠ s + 10 → a ≠ s + 11 → μ' a = μ a) ∧ ∀ g k, g < 5 → k < 6 → (6 * g + k < j → μ' (s + 10) (6 * g + k) = μ (s + 10) (6 * g + k) ∧ μ' (s + 11) (6 * g + k) = μ (s + 11) (6 * g + k)) ∧ (j ≤ 6 * g + k → μ' (s + 10) (6 * g + k) = wv (ξ 269) (μ s 2) (μ (s + 9) (6 * g + k)) g k ∧ μ' (s + 11) (6 * g + k) = wgt μ g (wv (ξ 269) (μ s 2) (μ (s + 9) (6 * g + k)) g k)) := by
  intro m
  induction m with
  | zero => intro j μ _ _ h2; exact absurd h2 (by omega)
  | succ m ih =>
    intro j μ n hj h2
    rw [fX10_setCuts_l10]
    have t30 : (30 : Int32) = nI 30 := rfl
    by_cases cj : j = 30
    · rw [if_pos (by rw [t30]; exact (nIle (by omega) (by omega)).mpr (by omega))]
      exact ⟨μ, rfl, fun _ _ _ => rfl, fun g k hg hk => ⟨fun _ => ⟨rfl, rfl⟩, fun w => absurd w (by omega)⟩⟩
    · rw [if_neg (fun w => cj (by rw [t30] at w; have := (nIle (by omega) (by omega)).mp w; omega))]
      have e : 6 * (j / 6) + j % 6 = j := by omega
      obtain ⟨μ1, e1, f1, u10, u11⟩ := cWeigh (s := s) (g := j / 6) (k := j % 6) (by omega) (by omega) hs n
      rw [e] at e1 u10 u11
      rw [e1, zBd_some, zLt_eq, show nI j + (1 : Int32) = nI (j + 1) from nI_1 j]
      obtain ⟨μ', x1, x2, x3⟩ := ih (j + 1) μ1 (n.fr (fun a h1 h2 => f1 a (by omega) (by omega)) rfl) (by omega) (by omega)
      refine ⟨μ', x1, fun a h1 h2 => by rw [x2 a h1 h2, f1 a h1 h2], fun g k hg hk => ⟨fun w => ?_, fun w => ?_⟩⟩
      · obtain ⟨v1, v2⟩ := (x3 g k hg hk).1 (by omega)
        rw [v1, v2, u10, u11, pk_un (by omega), pk_un (by omega)]
        exact ⟨rfl, rfl⟩
      · have k9 : μ1 (s + 9) = μ (s + 9) := f1 _ (by omega) (by omega)
        have ks : μ1 s = μ s := f1 _ (by omega) (by omega)
        have k7 : μ1 7 = μ 7 := f1 _ (by omega) (by omega)
        by_cases ej : 6 * g + k = j
        · obtain ⟨v1, v2⟩ := (x3 g k hg hk).1 (by omega)
          have eg : j / 6 = g := by omega
          have ek : j % 6 = k := by omega
          rw [v1, v2, u10, u11, ej, pk_us, pk_us, eg, ek]
          exact ⟨rfl, rfl⟩
        · obtain ⟨v1, v2⟩ := (x3 g k hg hk).2 (by omega)
          unfold wgt at *
          rw [v1, v2, k9, ks, k7]
          exact ⟨rfl, rfl⟩
/-- links cut: both -/
theorem pCuts {s : Nat} {F : Prop} {c v : Int32} {μ ξ : gM} (hs : 34 ≤ s) (h : CTX s F c μ ξ) : ∃ μ', fX10_setCuts s v μ = some μ' ∧ CTX s F c μ' (gUp ξ 272 2 v) ∧ (∀ a, a ≠ s → a ≠ s + 10 → a ≠ s + 11 → μ' a = μ a) ∧ ∀ i, i ≠ 2 → μ' s i = μ s i := by
  obtain ⟨hn, ⟨n0, n1, n2, n3, n4, n5⟩, hw, a1, a2, a3⟩ := h
  have hn1 : NET (gUp μ s 2 v) ξ := hn.fr (fun a h1 h2 => zUp_ne _ (by omega)) rfl
  obtain ⟨μ', e, f, q⟩ := cCuts_l hs 100000 0 (gUp μ s 2 v) hn1 (by omega) (by decide)
  have fa : ∀ a, a ≠ s → a ≠ s + 10 → a ≠ s + 11 → μ' a = μ a := fun a h1 h2 h3 => by rw [f a h2 h3, zUp_ne _ h1]
  have fs : ∀ i, i ≠ 2 → μ' s i = μ s i := fun i hi => by rw [f s (by omega) (by omega), zUp_slot _ hi]
  have wi : ∀ i, i ≠ 2 → gUp ξ 272 2 v 272 i = ξ 272 i := fun i hi => zUp_slot _ hi
  have wx : ∀ a, a ≠ 272 → gUp ξ 272 2 v a = ξ a := fun a ha => zUp_ne _ ha
  refine ⟨μ', ?_, ⟨hn.fr (fun a h1 h2 => fa a (by omega) (by omega) (by omega)) (wx 269 (by decide)), ⟨by rw [fs 0 (by decide), wi 0 (by decide)]; exact n0, by rw [fs 1 (by decide), wi 1 (by decide)]; exact n1, by rw [f s (by omega) (by omega), zUp_same, zUp_same], by rw [fs 3 (by decide), wi 3 (by decide)]; exact n3, by rw [fs 4 (by decide), wi 4 (by decide)]; exact n4, by rw [fs 5 (by decide), wi 9 (by decide)]; exact n5⟩, fun g k m => ?_, by rw [fa _ (by omega) (by omega) (by omega)]; exact a1, by rw [wi 7 (by decide)]; exact a2, fun w => ?_⟩, fa, fs⟩
  · unfold fX10_setCuts
    rw [zLt_eq, z32]
    exact e
  · rw [wx 269 (by decide)] at m
    have hg := m.1
    have hk := m.2.1
    obtain ⟨w1, w2, -, -⟩ := hw g k m
    obtain ⟨v1, v2⟩ := (q g k hg hk).2 (Nat.zero_le _)
    rw [zUp_same, zUp_ne _ (show s + 9 ≠ s by omega), w1] at v1 v2
    obtain ⟨cn, cl, cg, ct, nc⟩ := hn.nc
    have g7 := (hn.gr nc (hn.mlt nc m).2).1
    rw [fa (s + 9) (by omega) (by omega) (by omega), v1, v2, wx 269 (by decide), zUp_same, wi _ (by omega)]
    refine ⟨w1, w2, rfl, ?_⟩
    unfold wgt sv
    rw [zUp_ne _ (show (7 : Nat) ≠ s by omega), g7]
  · obtain ⟨f1, f2, f3, f4⟩ := a3 w
    exact ⟨f1.cg (fa _ (by omega) (by omega) (by omega)) (fa _ (by omega) (by omega) (by omega)) (wi 7 (by decide)) (fun i hi => wi i (by omega)), by rw [fs 6 (by decide), wi 5 (by decide)]; exact f2, by rw [fs 7 (by decide), wi 6 (by decide)]; exact f3, by rw [fa _ (by omega) (by omega) (by omega), wx 267 (by decide)]; exact f4⟩
theorem cMemT {g k : Nat} {μ ξ : gM} (n : NET μ ξ) (m : mem (ξ 269) g k) : fX1_isMember 4 (nI g) (nI k) μ = some 1 := by
  obtain ⟨cn, cl, cg, ct, nc⟩ := n.nc
  obtain ⟨lk, lg⟩ := n.mlt nc m
  have b := nc.1
  rw [cMem (p := 4) (q := 269) (ξ' := ξ) n.1.1 n.1.2.2 (n.m11 m.1) (by rw [nc.2.2.1, tN (by omega)]; omega) (by rw [nc.2.2.2.2.1, tN (by omega)]; omega) m.1, mIsOf (by have := m.2.1; omega), if_pos m.2.2]
/-- a word told: both -/
theorem pTell {s g k : Nat} {F : Prop} {c v : Int32} {μ ξ : gM} (hs : 34 ≤ s) (h : CTX s F c μ ξ) (m : mem (ξ 269) g k) (b : 1 ≤ v.toInt ∧ v.toInt ≤ 255) : ∃ μ', fX10_tell s (nI g) (nI k) v μ = some μ' ∧ CTX s F c μ' (gUp ξ 272 (10 + (6 * g + k)) v) ∧ ∀ a, a ≠ s + 9 → a ≠ s + 10 → a ≠ s + 11 → μ' a = μ a := by
  have hg := m.1
  have hk := m.2.1
  obtain ⟨hn, ⟨n0, n1, n2, n3, n4, n5⟩, hw, a1, a2, a3⟩ := h
  have gm : gIn (nI (6 * g + k)) 30 = true := gI (by omega) (by decide)
  have cm : (nI (6 * g + k)).toNatClampNeg = 6 * g + k := nI_clamp (by omega)
  have hn1 : NET (gUp μ (s + 9) (6 * g + k) v) ξ := hn.fr (fun a h1 h2 => zUp_ne _ (by omega)) rfl
  obtain ⟨μ', e, f, u10, u11⟩ := cWeigh (s := s) hg hk hs hn1
  have fa : ∀ a, a ≠ s + 9 → a ≠ s + 10 → a ≠ s + 11 → μ' a = μ a := fun a h1 h2 h3 => by rw [f a h2 h3, zUp_ne _ h1]
  have wi : ∀ i, i ≠ 10 + (6 * g + k) → gUp ξ 272 (10 + (6 * g + k)) v 272 i = ξ 272 i := fun i hi => zUp_slot _ hi
  have wx : ∀ a, a ≠ 272 → gUp ξ 272 (10 + (6 * g + k)) v a = ξ a := fun a ha => zUp_ne _ ha
  refine ⟨μ', ?_, ⟨hn.fr (fun a h1 h2 => fa a (by omega) (by omega) (by omega)) (wx 269 (by decide)), ⟨by rw [fa s (by omega) (by omega) (by omega), wi 0 (by omega)]; exact n0, by rw [fa s (by omega) (by omega) (by omega), wi 1 (by omega)]; exact n1, by rw [fa s (by omega) (by omega) (by omega), wi 2 (by omega)]; exact n2, by rw [fa s (by omega) (by omega) (by omega), wi 3 (by omega)]; exact n3, by rw [fa s (by omega) (by omega) (by omega), wi 4 (by omega)]; exact n4, by rw [fa s (by omega) (by omega) (by omega), wi 9 (by omega)]; exact n5⟩, fun g' k' m' => ?_, by rw [fa _ (by omega) (by omega) (by omega)]; exact a1, by rw [wi 7 (by omega)]; exact a2, fun w => ?_⟩, fa⟩
  · unfold fX10_tell
    rw [cMemT hn m, zBd_some, if_neg one_n0, o6f hg hk]
    unfold zCk
    rw [if_pos gm, cm, zLt_eq, e, zBd_some]
  · rw [wx 269 (by decide)] at m'
    have := m'.1
    have := m'.2.1
    obtain ⟨w1, w2, w3, w4⟩ := hw g' k' m'
    obtain ⟨cn, cl, cg, ct, nc⟩ := hn.nc
    have g7 := (hn.gr nc (hn.mlt nc m).2).1
    by_cases em : 6 * g' + k' = 6 * g + k
    · have eg : g' = g := by omega
      have ek : k' = k := by omega
      subst eg ek
      rw [f (s + 9) (by omega) (by omega), zUp_same, u10, u11, pk_us, pk_us, wx 269 (by decide), zUp_same, wi 2 (by omega), zUp_ne _ (show s ≠ s + 9 by omega), n2]
      refine ⟨rfl, b, by rw [zUp_same], ?_⟩
      unfold wgt sv
      rw [zUp_same, zUp_ne _ (show (7 : Nat) ≠ s + 9 by omega), g7]
    · rw [f (s + 9) (by omega) (by omega), zUp_slot _ em, u10, u11, pk_un em, pk_un em, wx 269 (by decide), wi 2 (by omega), wi _ (by omega), zUp_ne _ (show s + 10 ≠ s + 9 by omega), zUp_ne _ (show s + 11 ≠ s + 9 by omega)]
      exact ⟨w1, w2, w3, w4⟩
  · obtain ⟨f1, f2, f3, f4⟩ := a3 w
    exact ⟨f1.cg (fa _ (by omega) (by omega) (by omega)) (fa _ (by omega) (by omega) (by omega)) (wi 7 (by omega)) (fun i hi => wi i (by omega)), by rw [fa s (by omega) (by omega) (by omega), wi 5 (by omega)]; exact f2, by rw [fa s (by omega) (by omega) (by omega), wi 6 (by omega)]; exact f3, by rw [fa _ (by omega) (by omega) (by omega), wx 267 (by decide)]; exact f4⟩
