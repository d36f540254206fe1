/-! net() answers alike -/
theorem zLt_eq {α β : Type} {a : α} {f : α → Option β} : zLt a f = f a := rfl
theorem stepNet4 {μ : gM} (h : Base μ) (ht : TAPE μ) (ho : ∀ k, k < 21 → μ 3 k = gOwn k) : ∃ (v : Int32) (μ1 μ2 : gM), fX11_net μ = some (v, μ1) ∧ fX12_net μ1 = some (v, μ2) ∧ Base μ2 ∧ (μ2 2 = μ 2 ∧ μ2 3 = μ 3 ∧ μ2 268 = μ 268) ∧ (μ2 1 2).toInt = 0 := by
  obtain ⟨v, v2, μ1, μ2, e1, e2, hB, hs, hl⟩ := stepNet h
  refine ⟨v, μ1, μ2, e1, ?_, hB, hs, hl⟩
  rw [e2]
  have hx : ∀ a, 267 ≤ a → μ1 a = μ a := by
    obtain ⟨⟨v', μ1'⟩, e1', M', h1, h1'⟩ := tX11_net h.1.weak
    have h1 : J false 0 M' μ1' := h1
    rw [e1] at e1'
    obtain ⟨rfl, rfl⟩ := Prod.mk.inj (Option.some.inj e1')
    exact fun a ha => (h1.2.2.2 a (Or.inr (Or.inl ha))).trans (h1' a (by omega))
  have kk : K (μ1 267 2) μ1 μ1 := by
    have := h.k hx
    rw [← hx 267 (by decide)] at this
    exact this
  obtain ⟨w, μ', ξ', r1, r2, f1, f2, f3, f4, f5, c⟩ := pReadAll (ξ := μ1) h ht ho (hx 268 (by decide)) (by rw [hx 267 (by decide)]; exact h.2.2.symm) kk
  rw [r2] at e2
  unfold fX11_net at e1
  rw [r1, zBp_some, zLt_eq] at e1
  rcases c with ⟨rfl, b0, dr, -, -, k0⟩ | ⟨rfl, b0, -, -⟩
  · rw [if_neg one_n0] at e1
    have h3 : J false 0 μ (gUp μ' 1 2 0) := by
      obtain ⟨r, er, pr⟩ := tX2_read h.1.weak
      rw [r1] at er
      obtain rfl := Option.some.inj er
      exact J.sl pr.1 (by decide) (by decide)
    obtain ⟨r, er, μ5, j5, v5, -, c5, -⟩ := net_go h3
    rw [er] at e1
    obtain rfl := Option.some.inj e1
    have j5 : J false 0 (nM μ μ5) μ1 := j5
    have v5 : v = μ1 5 2 := v5
    have q5 : μ1 5 2 = μ' 19 2 := by
      rw [j5.2.2.2 5 (Or.inl ⟨by decide, by decide⟩)]
      unfold nM
      rw [if_pos ⟨by decide, by decide⟩, c5]
      unfold va_cpy
      rw [if_pos (by omega), zUp_ne _ (by decide)]
    obtain ⟨r', er', pk⟩ := tX12_net_n92 k0
    rw [er'] at e2
    obtain rfl := Option.some.inj e2
    have q2 : v2 = ξ' 270 2 := (pk.2.2.2.2 (by rw [b0]; rfl)).1
    have q3 : μ' 19 2 = ξ' 270 2 := dr.1.2.2.1
    rw [v5, q5, q3, q2]
  · rw [if_pos rfl] at e1
    obtain ⟨rfl, -⟩ := Prod.mk.inj (Option.some.inj e1)
    unfold fX12_net_n92 at e2
    obtain ⟨⟨x, ζ⟩, er, rd⟩ := sX12_isRead (μ := ξ')
    have x0 : x = 0 := (rd.2.2.2.2 (fun w => b0 (Int32.toInt_inj.mp w))).1
    rw [er, zBp_some, if_pos x0] at e2
    obtain ⟨rfl, -⟩ := Prod.mk.inj (Option.some.inj e2)
    rfl
def Inv4 (μ : gM) : Prop := Base μ ∧ TAPE μ ∧ ∀ k, k < 21 → μ 3 k = gOwn k
theorem TAPE.same {μ ν : gM} (h : TAPE μ) (h1 : ν 1 2 = μ 1 2) (h2 : ν 2 = μ 2) (h3 : ν 268 = μ 268) : TAPE ν := by
  unfold TAPE at *
  rw [h1, h2, h3]
  exact h
theorem TAPE.zero {ν : gM} (h : (ν 1 2).toInt = 0) : TAPE ν := by
  unfold TAPE
  rw [h]
  exact fun i hi => absurd hi (by omega)
theorem TAPE.less {μ ν : gM} (h : TAPE μ) (h1 : (ν 1 2).toInt ≤ (μ 1 2).toInt) (h2 : ν 2 = μ 2) (h3 : ν 268 = μ 268) : TAPE ν := by
  unfold TAPE TPR at *
  rw [h2, h3]
  exact fun i hi => h i (by omega)
theorem Inv4.same {μ ν : gM} (h : Inv4 μ) (b : Base ν) (s : Same μ ν) : Inv4 ν := ⟨b, h.2.1.same (by rw [s.1 1 (by decide)]) (s.1 2 (by decide)) s.2.1, fun k hk => by rw [s.1 3 (by decide)]; exact h.2.2 k hk⟩
theorem Inv4_0 : Inv4 gM0 := ⟨Base_0, TAPE.zero rfl, fun k hk => by
  have : ∀ k, k < 21 → gM0 3 k = gOwn k := by decide +kernel
  exact this k hk⟩
theorem W4 {μ : gM} {f : Option (Int32 × gM)} {g : gM → Option (Int32 × gM)} (h : Inv4 μ) (hf : zH f (fun r => J true (μ 1 2) μ r.2)) (hg : ∀ (T : Int32) (C ν : gM), K T C ν → zH (g ν) (fun r => K T C r.2)) : ∃ (v v2 : Int32) (μ1 μ2 : gM), f = some (v, μ1) ∧ g μ1 = some (v2, μ2) ∧ Inv4 μ2 := by
  obtain ⟨v, v2, m1, m2, e1, e2, b, s⟩ := stepW h.1 hf hg
  exact ⟨v, v2, m1, m2, e1, e2, h.same b s⟩
theorem R4 {μ : gM} {Q : Int32 → Prop} {f : Option Int32} {g : gM → Option (Int32 × gM)} (h : Inv4 μ) (hf : zH f Q) (hg : ∀ (T : Int32) (C ν : gM), K T C ν → zH (g ν) (fun r => K T C r.2)) : ∃ (v v2 : Int32) (μ2 : gM), f = some v ∧ g μ = some (v2, μ2) ∧ Inv4 μ2 := by
  obtain ⟨v, v2, m2, e1, e2, b, s⟩ := stepR h.1 hf hg
  exact ⟨v, v2, m2, e1, e2, h.same b s⟩
