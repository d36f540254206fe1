/-! both objects between two calls -/
def Inv (μ : gM) : Prop := J (μ 1 2) μ μ ∧ K (μ 267 2) μ μ ∧ μ 1 2 = μ 267 2
theorem J.mv {L : Int32} {M μ ν : gM} (h : J L M μ) (e : ∀ a, a < 267 → ν a = μ a) : J L ν ν := by
  obtain ⟨h1, h2, h3, h4⟩ := h
  refine ⟨fun a ha i => by rw [e a ha]; exact h1 a ha i, fun q hq hq' hq2 => ?_, by rw [e 1 (by decide)]; exact h3, fun _ _ => rfl⟩
  have hp := h2 q hq hq' hq2
  have e1 : q + 1 < 267 := by
    rcases Nat.lt_or_ge (q + 1) 267 with w | w
    · exact w
    · have : q = 266 := by omega
      subst this
      exact absurd hq' (by decide)
  unfold PR at *
  rw [e q hq, e (q + 1) e1]
  exact hp
theorem K.mv {T : Int32} {C μ ν : gM} (h : K T C μ) (e : ∀ a, 267 ≤ a → ν a = μ a) : K T ν ν := by
  obtain ⟨h1, h2, h3, h4⟩ := h
  refine ⟨fun _ _ => rfl, by rw [e 267 (by decide)]; exact h2, ?_, ?_⟩
  · unfold KB at *; rw [e 267 (by decide)]; exact h3
  · unfold KR at *
    rw [e 269 (by decide), e 270 (by decide), e 271 (by decide), e 272 (by decide), e 273 (by decide)]
    exact h4
/-- the class's call, then the reference's -/
theorem stepG {L T L' T' : Int32} {μ μ1 μ2 : gM} (hJ : J L' μ μ1) (hK : K T' μ1 μ2) (e : L' = T') : Inv μ2 := by
  have a1 : ∀ a, a < 267 → μ2 a = μ1 a := hK.1
  refine ⟨?_, ?_, ?_⟩
  · have := J.mv (ν := μ2) hJ a1
    rw [show μ2 1 2 = L' by rw [a1 1 (by decide)]; exact hJ.2.2.1]
    exact this
  · rw [hK.2.1.1]
    exact K.mv (ν := μ2) hK (fun _ _ => rfl)
  · rw [a1 1 (by decide), hJ.2.2.1, hK.2.1.1, e]
theorem Inv.k {μ μ1 : gM} {L : Int32} (h : Inv μ) (hJ : J L μ μ1) : K (μ 267 2) μ1 μ1 := K.mv (ν := μ1) h.2.1 (fun a ha => hJ.2.2.2 a ha)
theorem stepW {μ : gM} {f : Option (Int32 × gM)} {g : gM → Option (Int32 × gM)} (h : Inv μ) (hf : zH f (fun r => J (μ 1 2) μ r.2)) (hg : ∀ (T : Int32) (C ν : gM), K T C ν → zH (g ν) (fun r => K T C r.2)) : ∃ (v v2 : Int32) (μ1 μ2 : gM), f = some (v, μ1) ∧ g μ1 = some (v2, μ2) ∧ Inv μ2 := by
  obtain ⟨⟨v, μ1⟩, e1, h1⟩ := hf
  obtain ⟨⟨v2, μ2⟩, e2, h2⟩ := hg _ _ _ (h.k h1)
  exact ⟨v, v2, μ1, μ2, e1, e2, stepG (L := 0) (T := 0) h1 h2 h.2.2⟩
theorem stepZ {μ : gM} {f : Option (Int32 × gM)} {g : gM → Option (Int32 × gM)} (h : Inv μ) (hf : zH f (fun r => J 0 μ r.2)) (hg : ∀ (T : Int32) (C ν : gM), K T C ν → zH (g ν) (fun r => K 0 C r.2)) : ∃ (v v2 : Int32) (μ1 μ2 : gM), f = some (v, μ1) ∧ g μ1 = some (v2, μ2) ∧ Inv μ2 := by
  obtain ⟨⟨v, μ1⟩, e1, h1⟩ := hf
  obtain ⟨⟨v2, μ2⟩, e2, h2⟩ := hg _ _ _ (h.k h1)
  exact ⟨v, v2, μ1, μ2, e1, e2, stepG (L := 0) (T := 0) h1 h2 rfl⟩
theorem stepR {μ : gM} {Q : Int32 → Prop} {f : Option Int32} {g : gM → Option (Int32 × gM)} (h : Inv μ) (hf : zH f Q) (hg : ∀ (T : Int32) (C ν : gM), K T C ν → zH (g ν) (fun r => K T C r.2)) : ∃ (v v2 : Int32) (μ2 : gM), f = some v ∧ g μ = some (v2, μ2) ∧ Inv μ2 := by
  obtain ⟨v, e1, -⟩ := hf
  obtain ⟨⟨v2, μ2⟩, e2, h2⟩ := hg _ _ _ h.2.1
  exact ⟨v, v2, μ2, e1, e2, stepG (L := 0) (T := 0) h.1 h2 h.2.2⟩
theorem stepEnd {μ : gM} {a : Int32} (h : Inv μ) : ∃ (v : Int32) (μ1 μ2 : gM), fX11_end a μ = some (v, μ1) ∧ fX12_end a μ1 = some (v, μ2) ∧ Inv μ2 := by
  obtain ⟨⟨v, μ1⟩, e1, h1⟩ := tX11_end (a1 := a) h.1
  by_cases c : 0 ≤ a.toInt ∧ a.toInt ≤ (μ 1 2).toInt
  · obtain ⟨q1, q2⟩ := h1.1 c
    obtain ⟨⟨v2, μ2⟩, e2, h2⟩ := tX12_end (a1 := a) (h.k q2)
    obtain ⟨r1, r2⟩ := h2.1 (by rw [← h.2.2]; exact c)
    have q1 : v = 1 := q1
    have r1 : v2 = 1 := r1
    refine ⟨v, μ1, μ2, e1, by rw [e2, q1, r1], stepG (L := 0) (T := 0) q2 r2 rfl⟩
  · obtain ⟨q1, q2⟩ := h1.2 c
    have q1 : v = 0 := q1
    have q2 : μ1 = μ := q2
    subst q2
    obtain ⟨⟨v2, μ2⟩, e2, h2⟩ := tX12_end (a1 := a) h.2.1
    obtain ⟨r1, r2⟩ := h2.2 (by rw [← h.2.2]; exact c)
    have r1 : v2 = 0 := r1
    refine ⟨v, μ1, μ2, e1, by rw [e2, q1, r1], stepG (L := 0) (T := 0) h.1 r2 h.2.2⟩
theorem J.ap {L : Int32} {M μ : gM} (h : J L M μ) {n : Nat} {x : Int32} (hn : n + 1 ≤ 1500) : J (nI (n + 1)) M (gAp μ n x) := by
  unfold gAp
  have q := nI_toInt (n := n + 1) (by omega)
  exact J.sl (J.upf h (a := 2) (k := (1, 1500)) rfl (by decide) (by decide) (by decide) (Or.inl (by decide)) rfl) (by omega) (by omega)
theorem K.pu {T : Int32} {C μ : gM} (h : K T C μ) {n : Nat} {x : Int32} (hn : n + 1 ≤ 1500) : K (nI (n + 1)) C (gPu μ n x) := by
  unfold gPu
  have q := nI_toInt (n := n + 1) (by omega)
  exact K.st (h.uf (by decide)) (by omega) (by omega)
theorem J.ap4 {L : Int32} {M μ : gM} (h : J L M μ) {n : Nat} {x : Int32} (hn : n + 4 ≤ 1500) : J (nI (n + 4)) M (gAp4 μ n x) :=
  (((h.ap (by omega)).ap (by omega)).ap (by omega)).ap (by omega)
theorem K.pu4 {T : Int32} {C μ : gM} (h : K T C μ) {n : Nat} {x : Int32} (hn : n + 4 ≤ 1500) : K (nI (n + 4)) C (gPu4 μ n x) :=
  (((h.pu (by omega)).pu (by omega)).pu (by omega)).pu (by omega)
theorem J.ap20 {L : Int32} {M μ : gM} (h : J L M μ) {n : Nat} {a b c d e : Int32} (hn : n + 20 ≤ 1500) : J (nI (n + 20)) M (gAp20 μ n a b c d e) :=
  ((((h.ap4 (by omega)).ap4 (by omega)).ap4 (by omega)).ap4 (by omega)).ap4 (by omega)
theorem K.pu20 {T : Int32} {C μ : gM} (h : K T C μ) {n : Nat} {a b c d e : Int32} (hn : n + 20 ≤ 1500) : K (nI (n + 20)) C (gPu20 μ n a b c d e) :=
  ((((h.pu4 (by omega)).pu4 (by omega)).pu4 (by omega)).pu4 (by omega)).pu4 (by omega)
theorem stepFeed {μ : gM} {a b c d e : Int32} (h : Inv μ) : ∃ (v : Int32) (μ1 μ2 : gM), fX11_feed a b c d e μ = some (v, μ1) ∧ fX12_feed a b c d e μ1 = some (v, μ2) ∧ Inv μ2 := by
  have hl : 0 ≤ (μ 1 2).toInt ∧ (μ 1 2).toInt ≤ 1500 := h.1.len
  obtain ⟨n, hn⟩ : ∃ n : Nat, (μ 1 2).toInt = n := ⟨(μ 1 2).toInt.toNat, by omega⟩
  have en : μ 1 2 = nI n := Int32.toInt_inj.mp (by rw [hn]; exact (nI_toInt (by omega)).symm)
  by_cases c20 : n + 20 ≤ 1500
  · have hJ := J.ap20 (a := a) (b := b) (c := c) (d := d) (e := e) h.1 c20
    have hK := h.k hJ
    have t1 : gAp20 μ n a b c d e 267 2 = nI n := by rw [hJ.2.2.2 267 (by decide), ← h.2.2, en]
    refine ⟨_, _, _, feed_c en c20, feed_m t1 c20, stepG (L := 0) (T := 0) hJ (K.pu20 (hK.u0 0) c20) rfl⟩
  · have q : ¬ ((μ 1 2) + (20 : Int32)) ≤ (1500 : Int32) := fun w => by
      have w1 := Int32.le_iff_toInt_le.mp w
      rw [iA hn (iL (20) (20) rfl) (by omega) (by omega)] at w1
      have : ((1500 : Int32)).toInt = 1500 := rfl
      omega
    have f1 : fX11_feed a b c d e μ = some (-1, μ) := by unfold fX11_feed; rw [if_neg q]
    have f2 : fX12_feed a b c d e μ = some (-1, gUp μ 267 0 0) := by
      have e2 : gUp μ 267 0 0 267 2 = μ 267 2 := zUp_slot _ (by decide)
      unfold fX12_feed
      simp only [zLt]
      rw [e2, ← h.2.2, if_neg q]
    exact ⟨_, _, _, f1, f2, stepG (L := 0) (T := 0) h.1 (h.2.1.u0 0) h.2.2⟩
theorem bdC_0 (k : Nat × Nat) (i : Nat) : (bdC k i).1 ≤ 0 ∧ 0 ≤ (bdC k i).2 := by
  unfold bdC
  split <;> (try split) <;> exact ⟨by decide, by decide⟩
theorem row0 : RowOK 0 0 0 := row_free (by decide) (by decide) (by decide)
theorem w0 : WOK (fun _ => 0) := ⟨⟨by decide, by decide⟩, ⟨by decide, by decide⟩, fun k hk => show RowOK 0 0 0 from row0⟩
theorem n0 : NOK (fun _ => 0) := ⟨⟨by decide, by decide⟩, ⟨by decide, by decide⟩, ⟨by decide, by decide⟩, ⟨by decide, by decide⟩, fun g hg => ⟨show (0 : Int) ≤ 0 ∧ (0 : Int) ≤ 8 from ⟨by decide, by decide⟩, fun w => absurd w (show ¬ (g : Int) < 0 by omega)⟩, fun g hg => show (0 : Int) ≤ 0 ∧ (0 : Int) ≤ 63 from ⟨by decide, by decide⟩⟩
theorem Inv_0 : Inv gM0 := by
  have z : ∀ a, a ≠ 3 → a ≠ 1 → a ≠ 267 → ∀ i, gM0 a i = 0 := fun a h1 h2 h3 i => by rw [gM0_z h1 h2 h3]
  refine ⟨?_, ?_, rfl⟩
  · refine ⟨fun a ha i => ?_, fun q hq hq' hq2 k hk => ?_, rfl, fun _ _ => rfl⟩
    · by_cases e3 : a = 3
      · subst e3; exact i32b _
      · by_cases e1 : a = 1
        · subst e1
          match i with
          | 0 => exact i32b _
          | 1 => exact i32b _
          | 2 => exact ⟨by decide, by decide⟩
          | 3 => exact ⟨by decide, by decide⟩
          | i + 4 => exact i32b _
        · rw [z a e3 e1 (by omega) i]; exact bdC_0 _ _
    · have e3 : q ≠ 3 := fun e => by subst e; exact absurd hq' (by decide)
      have e1 : q ≠ 1 := fun e => by subst e; exact absurd hq' (by decide)
      rw [z q e3 e1 (by omega) 0] at hk
      exact absurd hk (by show ¬ (k : Int) < 0; omega)
  · refine ⟨fun _ _ => rfl, ⟨rfl, by decide, by decide⟩, ⟨⟨by decide, by decide⟩, ⟨by decide, by decide⟩, ⟨by decide, by decide⟩, by decide, by decide⟩, ?_⟩
    unfold KR
    rw [gM0_z (by decide) (by decide) (by decide), gM0_z (by decide) (by decide) (by decide), gM0_z (by decide) (by decide) (by decide), gM0_z (by decide) (by decide) (by decide), gM0_z (by decide) (by decide) (by decide)]
    exact ⟨n0, n0, fun k hk => show RowOK 0 0 0 from row0, w0, fun b hb => w0⟩
