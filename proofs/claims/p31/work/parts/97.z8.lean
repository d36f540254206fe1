/-! what is on paper: answers alike -/
theorem INV.cmp {μ : gM} {f : Option (Int32 × gM)} {g : gM → Option (Int32 × gM)} (h : INV μ) (hf : zH f (fun r => J true (μ 1 2) μ r.2)) (hg : ∀ (T : Int32) (C ν : gM), K T C ν → zH (g ν) (fun r => K T C r.2)) (pa : ∀ ξ, LIVE μ ξ → μ 4 0 = 1 → ξ 267 15 = 1 → ∃ v μ' ξ', f = some (v, μ') ∧ g ξ = some (v, ξ')) (dd : DEAD μ → ∃ v, f = some (v, μ) ∧ g μ = some (v, gUp μ 267 0 0)) (fc : kc μ μ → zF Prod.snd (kc μ) f) (fr : ∀ ν, RB ν ν → zF Prod.snd (RB ν) (g ν)) : ∃ (v : Int32) (μ1 μ2 : gM), f = some (v, μ1) ∧ g μ1 = some (v, μ2) ∧ INV μ2 := by
  rcases h.th with ⟨t, t2, z⟩ | ⟨t, t2, l⟩
  · obtain ⟨v, e1, e2⟩ := dd (h.dead t t2 z)
    exact ⟨v, μ, _, e1, e2, h.u0⟩
  · obtain ⟨v, v2, m1, m2, e1, e2, i⟩ := h.pp hf hg fc fr
    obtain ⟨⟨w0, n0⟩, e0, j0⟩ := id hf
    rw [e1] at e0
    obtain ⟨rfl, rfl⟩ := Prod.mk.inj (Option.some.inj e0)
    have j0 : J true (μ 1 2) μ m1 := j0
    have x : ∀ a, 267 ≤ a → m1 a = μ a := fun a ha => j0.2.2.2 a (Or.inr (Or.inl ha))
    obtain ⟨w, n1, n2, f1, f2⟩ := pa m1 (l.fm x) t (by rw [x 267 (by decide)]; exact t2)
    rw [e1] at f1
    obtain ⟨rfl, rfl⟩ := Prod.mk.inj (Option.some.inj f1)
    rw [e2] at f2
    obtain ⟨rfl, rfl⟩ := Prod.mk.inj (Option.some.inj f2)
    exact ⟨_, m1, m2, e1, e2, i⟩
theorem d_ahead {a1 a2 : Int32} {μ : gM} (d : DEAD μ) : ∃ v, fX11_ahead a1 a2 μ = some (v, μ) ∧ fX12_ahead a1 a2 μ = some (v, gUp μ 267 0 0) := by
  obtain ⟨t, t2, z, nt, ct, nc⟩ := d
  unfold fX11_ahead fX12_ahead
  rw [zLtM]
  rcases groupG (a1 := a1) nc with ⟨k, hk, -⟩ | ⟨g1, g2⟩
  · omega
  · rw [g1, g2, zBd_some, zBd_some, if_pos rfl, if_pos rfl, show fX11_ahead_n35 a1 a2 (0 : Int32) μ = some (-1, μ) from by unfold fX11_ahead_n35; rw [if_pos rfl]]
    exact ⟨_, rfl, rfl⟩
theorem INV.ahead {a1 a2 : Int32} {μ : gM} (h : INV μ) : ∃ (v : Int32) (μ1 μ2 : gM), fX11_ahead a1 a2 μ = some (v, μ1) ∧ fX12_ahead a1 a2 μ1 = some (v, μ2) ∧ INV μ2 := h.cmp (tX11_ahead h.1.1.1) (fun _ _ _ k => tX12_ahead k) (fun ξ l t t2 => pAheadV (a1 := a1) (a2 := a2) l) (fun d => d_ahead (a1 := a1) (a2 := a2) d) (fun k => rX11_ahead k) (fun ν k => rX12_ahead k)
theorem d_fails {a1 a2 a3 : Int32} {μ : gM} (d : DEAD μ) : ∃ v, fX11_fails a1 a2 a3 μ = some (v, μ) ∧ fX12_fails a1 a2 a3 μ = some (v, gUp μ 267 0 0) := by
  obtain ⟨t, t2, z, nt, ct, nc⟩ := d
  unfold fX11_fails fX12_fails
  rw [zLtM]
  rcases pairG (a1 := a1) (a2 := a2) nc with ⟨g, k, hg, -⟩ | ⟨g1, g2 | ⟨g2, g3⟩⟩
  · omega
  · rw [g1, g2, zBd_some, zBd_some, if_pos rfl, if_pos rfl]
    exact ⟨_, rfl, rfl⟩
  · rw [g1, g2, zBd_some, zBd_some, if_pos rfl, if_neg one_n0, g3, zBd_some, if_pos rfl]
    exact ⟨_, rfl, rfl⟩
theorem INV.fails {a1 a2 a3 : Int32} {μ : gM} (h : INV μ) : ∃ (v : Int32) (μ1 μ2 : gM), fX11_fails a1 a2 a3 μ = some (v, μ1) ∧ fX12_fails a1 a2 a3 μ1 = some (v, μ2) ∧ INV μ2 := h.cmp (tX11_fails h.1.1.1) (fun _ _ _ k => tX12_fails k) (fun ξ l t t2 => pFailsV (a1 := a1) (a2 := a2) (a3 := a3) l) (fun d => d_fails (a1 := a1) (a2 := a2) (a3 := a3) d) (fun k => rX11_fails k) (fun ν k => rX12_fails k)
theorem d_worst {a1 a2 : Int32} {μ : gM} (d : DEAD μ) : ∃ v, fX11_worst a1 a2 μ = some (v, μ) ∧ fX12_worst a1 a2 μ = some (v, gUp μ 267 0 0) := by
  obtain ⟨t, t2, z, nt, ct, nc⟩ := d
  unfold fX11_worst fX12_worst
  rw [zLtM]
  rcases groupG (a1 := a1) nc with ⟨k, hk, -⟩ | ⟨g1, g2⟩
  · omega
  · rw [g1, g2, zBd_some, zBd_some, if_pos rfl, if_pos rfl]
    exact ⟨_, rfl, rfl⟩
theorem INV.worst {a1 a2 : Int32} {μ : gM} (h : INV μ) : ∃ (v : Int32) (μ1 μ2 : gM), fX11_worst a1 a2 μ = some (v, μ1) ∧ fX12_worst a1 a2 μ1 = some (v, μ2) ∧ INV μ2 := h.cmp (tX11_worst h.1.1.1) (fun _ _ _ k => tX12_worst k) (fun ξ l t t2 => pWorstV (a1 := a1) (a2 := a2) l) (fun d => d_worst (a1 := a1) (a2 := a2) d) (fun k => rX11_worst k) (fun ν k => rX12_worst k)
theorem d_least {a1 a2 : Int32} {μ : gM} (d : DEAD μ) : ∃ v, fX11_least a1 a2 μ = some (v, μ) ∧ fX12_least a1 a2 μ = some (v, gUp μ 267 0 0) := by
  obtain ⟨t, t2, z, nt, ct, nc⟩ := d
  unfold fX11_least fX12_least
  rw [zLtM]
  rcases memG (a1 := a1) (a2 := a2) nt nc with ⟨g, k, m, -⟩ | ⟨g1, g2⟩
  · exact absurd (nt.mlt nc m).1 (by omega)
  · rw [g1, g2, zBd_some, zBd_some, if_pos rfl, if_pos rfl]
    exact ⟨_, rfl, rfl⟩
theorem INV.least {a1 a2 : Int32} {μ : gM} (h : INV μ) : ∃ (v : Int32) (μ1 μ2 : gM), fX11_least a1 a2 μ = some (v, μ1) ∧ fX12_least a1 a2 μ1 = some (v, μ2) ∧ INV μ2 := h.cmp (tX11_least h.1.1.1) (fun _ _ _ k => tX12_least k) (fun ξ l t t2 => pLeastV (a1 := a1) (a2 := a2) l) (fun d => d_least (a1 := a1) (a2 := a2) d) (fun k => rX11_least k) (fun ν k => rX12_least k)
theorem d_flaps {a1 a2 : Int32} {μ : gM} (d : DEAD μ) : ∃ v, fX11_flaps a1 a2 μ = some (v, μ) ∧ fX12_flaps a1 a2 μ = some (v, gUp μ 267 0 0) := by
  obtain ⟨t, t2, z, nt, ct, nc⟩ := d
  unfold fX11_flaps fX12_flaps
  rw [zLtM]
  rcases groupG (a1 := a1) nc with ⟨k, hk, -⟩ | ⟨g1, g2⟩
  · omega
  · rw [g1, g2, zBd_some, zBd_some, if_pos rfl, if_pos rfl]
    exact ⟨_, rfl, rfl⟩
theorem INV.flaps {a1 a2 : Int32} {μ : gM} (h : INV μ) : ∃ (v : Int32) (μ1 μ2 : gM), fX11_flaps a1 a2 μ = some (v, μ1) ∧ fX12_flaps a1 a2 μ1 = some (v, μ2) ∧ INV μ2 := h.cmp (tX11_flaps h.1.1.1) (fun _ _ _ k => tX12_flaps k) (fun ξ l t t2 => pFlapsV (a1 := a1) (a2 := a2) l) (fun d => d_flaps (a1 := a1) (a2 := a2) d) (fun k => rX11_flaps k) (fun ν k => rX12_flaps k)
theorem d_needs {a1 a2 : Int32} {μ : gM} (d : DEAD μ) : ∃ v, fX11_needs a1 a2 μ = some (v, μ) ∧ fX12_needs a1 a2 μ = some (v, gUp μ 267 0 0) := by
  obtain ⟨t, t2, z, nt, ct, nc⟩ := d
  unfold fX11_needs fX12_needs
  rw [zLtM]
  rcases pairG (a1 := a1) (a2 := a2) nc with ⟨g, k, hg, -⟩ | ⟨g1, g2 | ⟨g2, g3⟩⟩
  · omega
  · rw [g1, g2, zBd_some, zBd_some, if_pos rfl, if_pos rfl]
    exact ⟨_, rfl, rfl⟩
  · rw [g1, g2, zBd_some, zBd_some, if_pos rfl, if_neg one_n0, g3, zBd_some, if_pos rfl]
    exact ⟨_, rfl, rfl⟩
theorem INV.needs {a1 a2 : Int32} {μ : gM} (h : INV μ) : ∃ (v : Int32) (μ1 μ2 : gM), fX11_needs a1 a2 μ = some (v, μ1) ∧ fX12_needs a1 a2 μ1 = some (v, μ2) ∧ INV μ2 := h.cmp (tX11_needs h.1.1.1) (fun _ _ _ k => tX12_needs k) (fun ξ l t t2 => pNeedsV (a1 := a1) (a2 := a2) l) (fun d => d_needs (a1 := a1) (a2 := a2) d) (fun k => rX11_needs k) (fun ν k => rX12_needs k)
theorem d_letters {a1 : Int32} {μ : gM} (d : DEAD μ) : ∃ v, fX11_letters a1 μ = some (v, μ) ∧ fX12_letters a1 μ = some (v, gUp μ 267 0 0) := by
  obtain ⟨t, t2, z, nt, ct, nc⟩ := d
  unfold fX11_letters fX12_letters
  rw [zLtM]
  rw [if_pos t, if_pos t2]
  exact ⟨_, rfl, rfl⟩
theorem INV.letters {a1 : Int32} {μ : gM} (h : INV μ) : ∃ (v : Int32) (μ1 μ2 : gM), fX11_letters a1 μ = some (v, μ1) ∧ fX12_letters a1 μ1 = some (v, μ2) ∧ INV μ2 := h.cmp (tX11_letters h.1.1.1) (fun _ _ _ k => tX12_letters k) (fun ξ l t t2 => pLettersV (a1 := a1) l t t2) (fun d => d_letters (a1 := a1) d) (fun k => rX11_letters k) (fun ν k => rX12_letters k)
theorem d_stands {a1 a2 a3 : Int32} {μ : gM} (d : DEAD μ) : ∃ v, fX11_stands a1 a2 a3 μ = some (v, μ) ∧ fX12_stands a1 a2 a3 μ = some (v, gUp μ 267 0 0) := by
  obtain ⟨t, t2, z, nt, ct, nc⟩ := d
  unfold fX11_stands fX12_stands
  rw [zLtM]
  rcases memG (a1 := a1) (a2 := a2) nt nc with ⟨g, k, m, -⟩ | ⟨g1, g2⟩
  · exact absurd (nt.mlt nc m).1 (by omega)
  · rw [g1, g2, zBd_some, zBd_some, if_pos rfl, if_pos rfl]
    exact ⟨_, rfl, rfl⟩
theorem INV.stands {a1 a2 a3 : Int32} {μ : gM} (h : INV μ) : ∃ (v : Int32) (μ1 μ2 : gM), fX11_stands a1 a2 a3 μ = some (v, μ1) ∧ fX12_stands a1 a2 a3 μ1 = some (v, μ2) ∧ INV μ2 := h.cmp (tX11_stands h.1.1.1) (fun _ _ _ k => tX12_stands k) (fun ξ l t t2 => pStandsV (a1 := a1) (a2 := a2) (a3 := a3) l) (fun d => d_stands (a1 := a1) (a2 := a2) (a3 := a3) d) (fun k => rX11_stands k) (fun ν k => rX12_stands k)
theorem d_returns {a1 a2 : Int32} {μ : gM} (d : DEAD μ) : ∃ v, fX11_returns a1 a2 μ = some (v, μ) ∧ fX12_returns a1 a2 μ = some (v, gUp μ 267 0 0) := by
  obtain ⟨t, t2, z, nt, ct, nc⟩ := d
  unfold fX11_returns fX12_returns
  rw [zLtM]
  rcases memG (a1 := a1) (a2 := a2) nt nc with ⟨g, k, m, -⟩ | ⟨g1, g2⟩
  · exact absurd (nt.mlt nc m).1 (by omega)
  · rw [g1, g2, zBd_some, zBd_some, if_pos rfl, if_pos rfl]
    exact ⟨_, rfl, rfl⟩
theorem INV.returns {a1 a2 : Int32} {μ : gM} (h : INV μ) : ∃ (v : Int32) (μ1 μ2 : gM), fX11_returns a1 a2 μ = some (v, μ1) ∧ fX12_returns a1 a2 μ1 = some (v, μ2) ∧ INV μ2 := h.cmp (tX11_returns h.1.1.1) (fun _ _ _ k => tX12_returns k) (fun ξ l t t2 => pReturnsV (a1 := a1) (a2 := a2) l) (fun d => d_returns (a1 := a1) (a2 := a2) d) (fun k => rX11_returns k) (fun ν k => rX12_returns k)
theorem d_under {a1 a2 a3 : Int32} {μ : gM} (d : DEAD μ) : ∃ v, fX11_under a1 a2 a3 μ = some (v, μ) ∧ fX12_under a1 a2 a3 μ = some (v, gUp μ 267 0 0) := by
  obtain ⟨t, t2, z, nt, ct, nc⟩ := d
  unfold fX11_under fX12_under
  rw [zLtM]
  rcases pairG (a1 := a1) (a2 := a2) nc with ⟨g, k, hg, -⟩ | ⟨g1, g2 | ⟨g2, g3⟩⟩
  · omega
  · rw [g1, g2, zBd_some, zBd_some, if_pos rfl, if_pos rfl, show fX11_under_n35 a1 a2 a3 (0 : Int32) μ = some (-1, μ) from by unfold fX11_under_n35; rw [if_pos rfl]]
    exact ⟨_, rfl, rfl⟩
  · rw [g1, g2, zBd_some, zBd_some, if_pos rfl, if_neg one_n0, g3, zBd_some, if_pos rfl, show fX11_under_n35 a1 a2 a3 (0 : Int32) μ = some (-1, μ) from by unfold fX11_under_n35; rw [if_pos rfl]]
    exact ⟨_, rfl, rfl⟩
theorem INV.under {a1 a2 a3 : Int32} {μ : gM} (h : INV μ) : ∃ (v : Int32) (μ1 μ2 : gM), fX11_under a1 a2 a3 μ = some (v, μ1) ∧ fX12_under a1 a2 a3 μ1 = some (v, μ2) ∧ INV μ2 := h.cmp (tX11_under h.1.1.1) (fun _ _ _ k => tX12_under k) (fun ξ l t t2 => pUnderV (a1 := a1) (a2 := a2) (a3 := a3) l) (fun d => d_under (a1 := a1) (a2 := a2) (a3 := a3) d) (fun k => rX11_under k) (fun ν k => rX12_under k)
