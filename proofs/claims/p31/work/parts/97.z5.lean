/-! both nets, and the last fault, stay alike -/
theorem TAPE.same {μ ν : gM} (h : TAPE μ) (h1 : ν 1 2 = μ 1 2) (h2 : ν 2 = μ 2) (h3 : ν 268 = μ 268) : TAPE ν := by
  unfold TAPE at *
  rw [h1, h2, h3]
  exact h
theorem TAPE.zero {ν : gM} (h : (ν 1 2).toInt = 0) : TAPE ν := by
  unfold TAPE
  rw [h]
  exact fun i hi => absurd hi (by omega)
theorem TAPE.less {μ ν : gM} (h : TAPE μ) (h1 : (ν 1 2).toInt ≤ (μ 1 2).toInt) (h2 : ν 2 = μ 2) (h3 : ν 268 = μ 268) : TAPE ν := by
  unfold TAPE TPR at *
  rw [h2, h3]
  exact fun i hi => h i (by omega)
theorem NET_0 {μ ξ : gM} (z : ∀ a, 4 ≤ a → a ≤ 16 → ∀ i, μ a i = 0) (o : ∀ i, ξ 269 i = 0) : NET μ ξ := by
  have nt : ∀ t, t < 3 → NT 4 269 t μ ξ := fun t ht => by
    refine ⟨?_, ?_, fun k hk => ?_⟩
    · show μ 5 t = ξ 269 t
      rw [z 5 (by decide) (by decide), o]
    · rw [o]; exact ⟨by decide, by decide⟩
    · rw [o] at hk
      exact absurd hk (show ¬ (k : Int) < 0 by omega)
  refine ⟨⟨nt 0 (by decide), nt 1 (by decide), nt 2 (by decide)⟩, fun g hg => ?_, fun g k hg hk w => ?_, 0, 0, by decide, by decide, by rw [o]; decide, o 2, o 3, z 4 (by decide) (by decide) 10, fun g hg => absurd hg (by omega), fun t ht => absurd ht (by omega)⟩
  · rw [z 11 (by decide) (by decide), o]
    exact ⟨rfl, by decide, by decide⟩
  · rw [o, bitAt_iff (by omega), bt_zero] at w
    exact absurd w (by decide)
theorem NewN.net {μ μ1 μ2 : gM} (h : NewN μ μ1 μ2) (c : ∀ a, a < 267 → μ2 a = μ1 a) : NET μ2 μ2 := by
  obtain ⟨μ5, μ6, ξ9, -, -, -, -, j7, -, -, -, -, -, -, -, n, e9, -⟩ := h
  exact n.fr (fun a h1 h2 => by rw [c a (by omega)]; exact j7.2.2.2 a (Or.inl ⟨by omega, h2⟩)) e9
theorem NewN.there {μ μ1 μ2 : gM} (h : NewN μ μ1 μ2) (c : ∀ a, a < 267 → μ2 a = μ1 a) : μ2 4 0 = 1 ∧ μ2 267 15 = 1 := by
  obtain ⟨μ5, μ6, ξ9, -, -, -, -, j7, -, -, -, -, -, -, -, n, e9, t1, t2⟩ := h
  refine ⟨?_, t2⟩
  rw [c 4 (by decide), j7.2.2.2 4 (Or.inl ⟨by decide, by decide⟩)]
  exact t1
def Inv5 (μ : gM) : Prop := Base μ ∧ TAPE μ ∧ (∀ k, k < 21 → μ 3 k = gOwn k) ∧ NET μ μ ∧ THERE μ ∧ FAULT μ
theorem Inv5.same {μ ν : gM} (h : Inv5 μ) (b : Base ν) (s : Same μ ν) : Inv5 ν := by
  refine ⟨b, h.2.1.same (by rw [s.1 1 (by decide)]) (s.1 2 (by decide)) s.2.1, fun k hk => by rw [s.1 3 (by decide)]; exact h.2.2.1 k hk, h.2.2.2.1.fr (fun a h1 h2 => s.1 a (by omega)) s.2.2.1, ?_, ?_⟩
  · unfold THERE
    rw [s.1 4 (by decide), s.2.2.2.2.2]
    exact h.2.2.2.2.1
  · unfold FAULT
    rw [s.1 1 (by decide), s.2.2.2.1, s.2.2.2.2.1]
    exact h.2.2.2.2.2
theorem Inv5_0 : Inv5 gM0 := by
  refine ⟨Base_0, TAPE.zero rfl, fun k hk => ?_, NET_0 (fun a h1 h2 i => by rw [gM0_z (by omega) (by omega) (by omega)]) (fun i => by rw [gM0_z (by decide) (by decide) (by decide)]), ?_, ?_⟩
  · have : ∀ k, k < 21 → gM0 3 k = gOwn k := by decide +kernel
    exact this k hk
  · have : gM0 4 0 = gM0 267 15 ∧ (gM0 4 0 = 0 ∨ gM0 4 0 = 1) := by decide +kernel
    exact this
  · have : gM0 1 7 = gM0 267 8 ∧ gM0 1 8 = gM0 267 9 := by decide +kernel
    exact this
theorem W5 {μ : gM} {f : Option (Int32 × gM)} {g : gM → Option (Int32 × gM)} (h : Inv5 μ) (hf : zH f (fun r => J true (μ 1 2) μ r.2)) (hg : ∀ (T : Int32) (C ν : gM), K T C ν → zH (g ν) (fun r => K T C r.2)) : ∃ (v v2 : Int32) (μ1 μ2 : gM), f = some (v, μ1) ∧ g μ1 = some (v2, μ2) ∧ Inv5 μ2 := by
  obtain ⟨v, v2, m1, m2, e1, e2, b, s⟩ := stepW h.1 hf hg
  exact ⟨v, v2, m1, m2, e1, e2, h.same b s⟩
theorem R5 {μ : gM} {Q : Int32 → Prop} {f : Option Int32} {g : gM → Option (Int32 × gM)} (h : Inv5 μ) (hf : zH f Q) (hg : ∀ (T : Int32) (C ν : gM), K T C ν → zH (g ν) (fun r => K T C r.2)) : ∃ (v v2 : Int32) (μ2 : gM), f = some v ∧ g μ = some (v2, μ2) ∧ Inv5 μ2 := by
  obtain ⟨v, v2, m2, e1, e2, b, s⟩ := stepR h.1 hf hg
  exact ⟨v, v2, m2, e1, e2, h.same b s⟩
theorem apI {x : Int32} : ∀ (m : Nat) (y : Int32) (μ μ' : gM), fX7_append_l3 m x y μ = some μ' → (∀ a, a ≠ 1 → a ≠ 2 → μ' a = μ a) ∧ ∀ i, i ≠ 2 → μ' 1 i = μ 1 i := by
  intro m
  induction m with
  | zero => intro y μ μ' h; rw [fX7_append_l3] at h; cases h
  | succ m ih =>
    intro y μ μ' h
    rw [fX7_append_l3] at h
    by_cases c : y < 0
    · rw [if_pos c] at h
      obtain rfl := Option.some.inj h
      exact ⟨fun _ _ _ => rfl, fun _ _ => rfl⟩
    · rw [if_neg c] at h
      by_cases c2 : (1500 : Int32) ≤ μ 1 2
      · rw [if_pos c2] at h
        obtain rfl := Option.some.inj h
        exact ⟨fun _ _ _ => rfl, fun _ _ => rfl⟩
      · rw [if_neg c2] at h
        have h := ckI h
        rw [zLt_eq, zLt_eq, zLt_eq] at h
        obtain ⟨f1, f2⟩ := ih _ _ _ h
        exact ⟨fun a h1 h2 => by rw [f1 a h1 h2, zUp_ne _ h1, zUp_ne _ h2], fun i hi => by rw [f2 i hi, zUp_slot _ hi, zUp_ne _ (by decide)]⟩
theorem puI {x : Int32} : ∀ (m : Nat) (y : Int32) (μ μ' : gM), fX12_puts_l3 m x y μ = some μ' → (∀ a, a ≠ 267 → a ≠ 268 → μ' a = μ a) ∧ ∀ i, i ≠ 2 → μ' 267 i = μ 267 i := by
  intro m
  induction m with
  | zero => intro y μ μ' h; rw [fX12_puts_l3] at h; cases h
  | succ m ih =>
    intro y μ μ' h
    rw [fX12_puts_l3] at h
    by_cases c : y < 0
    · rw [if_pos c] at h
      obtain rfl := Option.some.inj h
      exact ⟨fun _ _ _ => rfl, fun _ _ => rfl⟩
    · rw [if_neg c] at h
      have h := ckI h
      rw [zLt_eq, zLt_eq, zLt_eq] at h
      obtain ⟨f1, f2⟩ := ih _ _ _ h
      exact ⟨fun a h1 h2 => by rw [f1 a h1 h2, zUp_ne _ h1, zUp_ne _ h2], fun i hi => by rw [f2 i hi, zUp_slot _ hi, zUp_ne _ (by decide)]⟩
theorem feedF {a b c d e v w : Int32} {μ μ1 μ2 : gM} (h1 : fX11_feed a b c d e μ = some (v, μ1)) (h2 : fX12_feed a b c d e μ1 = some (w, μ2)) (f : FAULT μ) : FAULT μ2 := by
  have c1 : ∀ i, i ≠ 2 → μ1 1 i = μ 1 i ∧ μ1 267 i = μ 267 i := fun i hi => by
    unfold fX11_feed at h1
    by_cases c : ((μ 1 2) + (20 : Int32)) ≤ (1500 : Int32)
    · rw [if_pos c] at h1
      obtain ⟨ν1, e1, h1⟩ := bdI h1
      obtain ⟨ν2, e2, h1⟩ := bdI h1
      obtain ⟨ν3, e3, h1⟩ := bdI h1
      obtain ⟨ν4, e4, h1⟩ := bdI h1
      obtain ⟨ν5, e5, h1⟩ := bdI h1
      obtain ⟨rfl, rfl⟩ := Prod.mk.inj (Option.some.inj h1)
      unfold fX7_append at e1 e2 e3 e4 e5
      have f1 := apI _ _ _ _ e1
      have f2 := apI _ _ _ _ e2
      have f3 := apI _ _ _ _ e3
      have f4 := apI _ _ _ _ e4
      have f5 := apI _ _ _ _ e5
      exact ⟨by rw [f5.2 i hi, f4.2 i hi, f3.2 i hi, f2.2 i hi, f1.2 i hi], by rw [f5.1 267 (by decide) (by decide), f4.1 267 (by decide) (by decide), f3.1 267 (by decide) (by decide), f2.1 267 (by decide) (by decide), f1.1 267 (by decide) (by decide)]⟩
    · rw [if_neg c] at h1
      obtain ⟨rfl, rfl⟩ := Prod.mk.inj (Option.some.inj h1)
      exact ⟨rfl, rfl⟩
  have c2 : ∀ i, i ≠ 2 → i ≠ 0 → μ2 1 i = μ1 1 i ∧ μ2 267 i = μ1 267 i := fun i hi h0 => by
    unfold fX12_feed at h2
    rw [zLt_eq] at h2
    by_cases c : (gUp μ1 267 0 0 267 2 + (20 : Int32)) ≤ (1500 : Int32)
    · rw [if_pos c] at h2
      obtain ⟨ν1, e1, h2⟩ := bdI h2
      obtain ⟨ν2, e2, h2⟩ := bdI h2
      obtain ⟨ν3, e3, h2⟩ := bdI h2
      obtain ⟨ν4, e4, h2⟩ := bdI h2
      obtain ⟨ν5, e5, h2⟩ := bdI h2
      obtain ⟨rfl, rfl⟩ := Prod.mk.inj (Option.some.inj h2)
      unfold fX12_puts at e1 e2 e3 e4 e5
      have f1 := puI _ _ _ _ e1
      have f2 := puI _ _ _ _ e2
      have f3 := puI _ _ _ _ e3
      have f4 := puI _ _ _ _ e4
      have f5 := puI _ _ _ _ e5
      exact ⟨by rw [f5.1 1 (by decide) (by decide), f4.1 1 (by decide) (by decide), f3.1 1 (by decide) (by decide), f2.1 1 (by decide) (by decide), f1.1 1 (by decide) (by decide), zUp_ne _ (by decide)], by rw [f5.2 i hi, f4.2 i hi, f3.2 i hi, f2.2 i hi, f1.2 i hi, zUp_slot _ h0]⟩
    · rw [if_neg c] at h2
      obtain ⟨rfl, rfl⟩ := Prod.mk.inj (Option.some.inj h2)
      exact ⟨by rw [zUp_ne _ (by decide)], zUp_slot _ h0⟩
  unfold FAULT at *
  rw [(c2 7 (by decide) (by decide)).1, (c1 7 (by decide)).1, (c2 8 (by decide) (by decide)).1, (c1 8 (by decide)).1, (c2 8 (by decide) (by decide)).2, (c1 8 (by decide)).2, (c2 9 (by decide) (by decide)).2, (c1 9 (by decide)).2]
  exact f
theorem Inv5.feed {a b c d e : Int32} {μ : gM} (h : Inv5 μ) : ∃ (v : Int32) (μ1 μ2 : gM), fX11_feed a b c d e μ = some (v, μ1) ∧ fX12_feed a b c d e μ1 = some (v, μ2) ∧ Inv5 μ2 := by
  obtain ⟨v, m1, m2, e1, e2, bb, t, o3, o4, o9, o15⟩ := stepFeed (a := a) (b := b) (c := c) (d := d) (e := e) h.1 h.2.1
  refine ⟨v, m1, m2, e1, e2, bb, t, fun k hk => by rw [o3]; exact h.2.2.1 k hk, h.2.2.2.1.fr o4 o9, ?_, feedF e1 e2 h.2.2.2.2.2⟩
  unfold THERE
  rw [o4 4 (by decide) (by decide), o15]
  exact h.2.2.2.2.1
theorem Inv5.fin {a : Int32} {μ : gM} (h : Inv5 μ) : ∃ (v : Int32) (μ1 μ2 : gM), fX11_end a μ = some (v, μ1) ∧ fX12_end a μ1 = some (v, μ2) ∧ Inv5 μ2 := by
  obtain ⟨v, m1, m2, e1, e2, b, s⟩ := stepEnd (a := a) h.1
  refine ⟨v, m1, m2, e1, e2, b, h.2.1.less s.2.2.1 (s.1 2 (by decide) (by decide)) s.2.2.2.1, fun k hk => by rw [s.1 3 (by decide) (by decide)]; exact h.2.2.1 k hk, h.2.2.2.1.fr (fun a h1 h2 => s.1 a (by omega) (by omega)) s.2.2.2.2.1, ?_, ?_⟩
  · unfold THERE
    rw [s.1 4 (by decide) (by decide), s.2.2.2.2.2.2.2]
    exact h.2.2.2.2.1
  · unfold FAULT
    rw [s.2.1 7 (by decide), s.2.1 8 (by decide), s.2.2.2.2.2.1, s.2.2.2.2.2.2.1]
    exact h.2.2.2.2.2
theorem Inv5.net {μ : gM} (h : Inv5 μ) : ∃ (v : Int32) (μ1 μ2 : gM), fX11_net μ = some (v, μ1) ∧ fX12_net μ1 = some (v, μ2) ∧ Inv5 μ2 := by
  obtain ⟨v, m1, m2, e1, e2, b, ⟨s2, s3, s8⟩, z, f, c⟩ := stepNetN h.1 h.2.1 h.2.2.1
  refine ⟨v, m1, m2, e1, e2, b, TAPE.zero z, fun k hk => by rw [s3]; exact h.2.2.1 k hk, ?_⟩
  rcases c with c | ⟨c, d⟩
  · refine ⟨h.2.2.2.1.fr (fun a h1 h2 => c.1 a (by omega) (by omega) (by omega)) (c.2.1 269 (by decide) (by decide)), ?_, f⟩
    unfold THERE
    rw [c.1 4 (by decide) (by decide) (by decide), c.2.2 15 (by decide)]
    exact h.2.2.2.2.1
  · obtain ⟨t1, t2⟩ := c.there d
    exact ⟨c.net d, ⟨t1.trans t2.symm, Or.inr t1⟩, f⟩
theorem Inv5.plan {μ : gM} (h : Inv5 μ) : ∃ (v : Int32) (μ1 μ2 : gM), fX11_plan μ = some (v, μ1) ∧ fX12_plan μ1 = some (v, μ2) ∧ Inv5 μ2 := by
  obtain ⟨v, m1, m2, e1, e2, b, s, z, f⟩ := stepPlanN h.1 h.2.1 h.2.2.1 h.2.2.2.1 h.2.2.2.2.1 h.2.2.2.2.2
  refine ⟨v, m1, m2, e1, e2, b, TAPE.zero z, fun k hk => by rw [s.1 3 (by decide) (by decide)]; exact h.2.2.1 k hk, h.2.2.2.1.fr (fun a h1 h2 => s.1 a (by omega) h2) s.2.2.1, ?_, f⟩
  unfold THERE
  rw [s.1 4 (by decide) (by decide), s.2.2.2]
  exact h.2.2.2.2.1
theorem Inv5.u0 {μ : gM} (h : Inv5 μ) : Inv5 (gUp μ 267 0 0) := by
  refine h.same (baseG h.1.1 (h.1.2.1.u0 0) (fun q hq => zUp_ne _ (by omega)) h.1.2.2) ⟨fun a ha => zUp_ne _ (by omega), zUp_ne _ (by decide), zUp_ne _ (by decide), zUp_slot _ (by decide), zUp_slot _ (by decide), zUp_slot _ (by decide)⟩
theorem pFaultQ {a1 : Int32} {μ : gM} (h : FAULT μ) : ∃ v, fX11_fault a1 μ = some v ∧ fX12_fault a1 μ = some (v, gUp μ 267 0 0) := by
  unfold fX11_fault fX12_fault
  rw [zLt_eq]
  by_cases c : a1 = 0
  · rw [if_pos c, if_pos c, zUp_slot _ (by decide), ← h.1]
    exact ⟨_, rfl, rfl⟩
  · rw [if_neg c, if_neg c]
    by_cases c1 : a1 = 1
    · rw [if_pos c1, if_pos c1, zUp_slot _ (by decide), ← h.2]
      exact ⟨_, rfl, rfl⟩
    · rw [if_neg c1, if_neg c1]
      exact ⟨_, rfl, rfl⟩
