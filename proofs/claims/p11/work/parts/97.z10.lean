/-! both nets stay alike -/
def Inv10 (μ : gM) : Prop := Base μ ∧ TAPE μ ∧ (∀ k, k < 21 → μ 3 k = gOwn k) ∧ NET μ μ
theorem TAPE.same {μ ν : gM} (h : TAPE μ) (h1 : ν 1 2 = μ 1 2) (h2 : ν 2 = μ 2) (h3 : ν 268 = μ 268) : TAPE ν := by
  unfold TAPE at *
  rw [h1, h2, h3]
  exact h
theorem TAPE.zero {ν : gM} (h : (ν 1 2).toInt = 0) : TAPE ν := by
  unfold TAPE
  rw [h]
  exact fun i hi => absurd hi (by omega)
theorem TAPE.less {μ ν : gM} (h : TAPE μ) (h1 : (ν 1 2).toInt ≤ (μ 1 2).toInt) (h2 : ν 2 = μ 2) (h3 : ν 268 = μ 268) : TAPE ν := by
  unfold TAPE TPR at *
  rw [h2, h3]
  exact fun i hi => h i (by omega)
theorem Inv10.same {μ ν : gM} (h : Inv10 μ) (b : Base ν) (s : Same μ ν) : Inv10 ν := ⟨b, h.2.1.same (by rw [s.1 1 (by decide)]) (s.1 2 (by decide)) s.2.1, fun k hk => by rw [s.1 3 (by decide)]; exact h.2.2.1 k hk, h.2.2.2.fr (fun a h1 h2 => s.1 a (by omega)) s.2.2.1⟩
theorem NET_0 {μ ξ : gM} (z : ∀ a, 4 ≤ a → a ≤ 16 → ∀ i, μ a i = 0) (o : ∀ i, ξ 269 i = 0) : NET μ ξ := by
  have nt : ∀ t, t < 3 → NT 4 269 t μ ξ := fun t ht => by
    refine ⟨?_, ?_, fun k hk => ?_⟩
    · show μ 5 t = ξ 269 t
      rw [z 5 (by decide) (by decide), o]
    · rw [o]; exact ⟨by decide, by decide⟩
    · rw [o] at hk
      exact absurd hk (show ¬ (k : Int) < 0 by omega)
  refine ⟨⟨nt 0 (by decide), nt 1 (by decide), nt 2 (by decide)⟩, fun g hg => ?_, fun g k hg hk w => ?_, 0, 0, by decide, by decide, by rw [o]; decide, o 2, o 3, z 4 (by decide) (by decide) 10, fun g hg => absurd hg (by omega), fun t ht => absurd ht (by omega)⟩
  · rw [z 11 (by decide) (by decide), o]
    exact ⟨rfl, by decide, by decide⟩
  · rw [o, bitAt_iff (by omega), bt_zero] at w
    exact absurd w (by decide)
theorem Inv10_0 : Inv10 gM0 := ⟨Base_0, TAPE.zero rfl, fun k hk => by
  have : ∀ k, k < 21 → gM0 3 k = gOwn k := by decide +kernel
  exact this k hk, NET_0 (fun a h1 h2 i => by rw [gM0_z (by omega) (by omega) (by omega)]) (fun i => by rw [gM0_z (by decide) (by decide) (by decide)])⟩
theorem NewN.net {μ μ1 μ2 : gM} (h : NewN μ μ1 μ2) (c : ∀ a, a < 267 → μ2 a = μ1 a) : NET μ2 μ2 := by
  obtain ⟨μ5, μ6, ξ9, -, -, -, -, j7, -, -, -, -, -, -, -, n, e9, -⟩ := h
  exact n.fr (fun a h1 h2 => by rw [c a (by omega)]; exact j7.2.2.2 a (Or.inl ⟨by omega, h2⟩)) e9
theorem W10 {μ : gM} {f : Option (Int32 × gM)} {g : gM → Option (Int32 × gM)} (h : Inv10 μ) (hf : zH f (fun r => J true (μ 1 2) μ r.2)) (hg : ∀ (T : Int32) (C ν : gM), K T C ν → zH (g ν) (fun r => K T C r.2)) : ∃ (v v2 : Int32) (μ1 μ2 : gM), f = some (v, μ1) ∧ g μ1 = some (v2, μ2) ∧ Inv10 μ2 := by
  obtain ⟨v, v2, m1, m2, e1, e2, b, s⟩ := stepW h.1 hf hg
  exact ⟨v, v2, m1, m2, e1, e2, h.same b s⟩
theorem R10 {μ : gM} {Q : Int32 → Prop} {f : Option Int32} {g : gM → Option (Int32 × gM)} (h : Inv10 μ) (hf : zH f Q) (hg : ∀ (T : Int32) (C ν : gM), K T C ν → zH (g ν) (fun r => K T C r.2)) : ∃ (v v2 : Int32) (μ2 : gM), f = some v ∧ g μ = some (v2, μ2) ∧ Inv10 μ2 := by
  obtain ⟨v, v2, m2, e1, e2, b, s⟩ := stepR h.1 hf hg
  exact ⟨v, v2, m2, e1, e2, h.same b s⟩
theorem Inv10.net {μ : gM} (h : Inv10 μ) : ∃ (v : Int32) (μ1 μ2 : gM), fX11_net μ = some (v, μ1) ∧ fX12_net μ1 = some (v, μ2) ∧ Inv10 μ2 := by
  obtain ⟨v, m1, m2, e1, e2, b, ⟨s2, s3, s8⟩, z, -, c⟩ := stepNetN h.1 h.2.1 h.2.2.1
  refine ⟨v, m1, m2, e1, e2, b, TAPE.zero z, fun k hk => by rw [s3]; exact h.2.2.1 k hk, ?_⟩
  rcases c with c | ⟨c, d⟩
  · exact h.2.2.2.fr (fun a h1 h2 => c.1 a (by omega) (by omega) (by omega)) (c.2.1 269 (by decide) (by decide))
  · exact c.net d
theorem Inv10.u0 {μ : gM} (h : Inv10 μ) : Inv10 (gUp μ 267 0 0) := by
  refine ⟨baseG h.1.1 (h.1.2.1.u0 0) (fun q hq => zUp_ne _ (by omega)) h.1.2.2, h.2.1.same ?_ ?_ ?_, fun k hk => ?_, h.2.2.2.fr (fun a h1 h2 => zUp_ne _ (by omega)) (zUp_ne _ (by decide))⟩
  · rw [zUp_ne _ (by decide)]
  · exact zUp_ne _ (by decide)
  · exact zUp_ne _ (by decide)
  · rw [zUp_ne _ (by decide)]; exact h.2.2.1 k hk
