/-! the invariant of all calls: behind a net all is live, ahead of one nothing is there -/
def Z0 (μ : gM) : Prop := (μ 5 0 = 0 ∧ μ 5 1 = 0 ∧ μ 5 2 = 0) ∧ (μ 35 0 = 0 ∧ μ 37 0 = 0 ∧ μ 37 1 = 0) ∧ μ 272 8 = 0 ∧ μ 272 7 = 0
theorem Z0.mv {μ ν : gM} (h : Z0 μ) (h5 : ν 5 = μ 5) (h35 : ν 35 = μ 35) (h37 : ν 37 = μ 37) (h8 : ν 272 8 = μ 272 8) (h7 : ν 272 7 = μ 272 7) : Z0 ν := by
  unfold Z0 at *
  rw [h5, h35, h37, h8, h7]
  exact h
def INV (μ : gM) : Prop := Inv5 μ ∧ (μ 4 0 = 1 → LIVE μ μ) ∧ (μ 4 0 = 0 → Z0 μ)
theorem INV_0 : INV gM0 := by
  have z : ∀ a, a ≠ 3 → a ≠ 1 → a ≠ 267 → ∀ i, gM0 a i = 0 := fun a h1 h2 h3 i => by rw [gM0_z h1 h2 h3]
  refine ⟨Inv5_0, fun w => ?_, fun _ => ?_⟩
  · rw [z 4 (by decide) (by decide) (by decide)] at w
    exact absurd w (by decide)
  · exact ⟨⟨z 5 (by decide) (by decide) (by decide) 0, z 5 (by decide) (by decide) (by decide) 1, z 5 (by decide) (by decide) (by decide) 2⟩, ⟨z 35 (by decide) (by decide) (by decide) 0, z 37 (by decide) (by decide) (by decide) 0, z 37 (by decide) (by decide) (by decide) 1⟩, z 272 (by decide) (by decide) (by decide) 8, z 272 (by decide) (by decide) (by decide) 7⟩
theorem LIVE.mv3 {μ ξ μ' ξ' : gM} (h : LIVE μ ξ) (hm : ∀ a, 4 ≤ a → a < 248 → μ' a = μ a) (h9 : ξ' 269 = ξ 269) (r : RB ξ ξ') : LIVE μ' ξ' := by
  obtain ⟨g, ⟨cg, r1, r2, r3⟩, cnt, idx, p1, p2, p3, p4, p5, p6, p7⟩ := h
  have hA : ∀ a, 4 ≤ a → a ≤ 16 → μ' a = μ a := fun a h1 h2 => hm a h1 (by omega)
  have m49 : μ' 49 = μ 49 := hm 49 (by omega) (by omega)
  refine ⟨g.cp hA h9 (fun j i hj => by rw [hm _ (by unfold INR at hj; omega) (by unfold INR at hj; omega)]) r.1, ⟨cg, by rw [hm 5 (by decide) (by decide)]; exact r1, r2, ?_⟩, cnt, idx, p1, p2, by rw [m49]; exact p3, by rw [m49]; exact p4, by rw [r.2.2.2]; exact p5, fun t ht => (p6 t ht).mv hA h9 (fun a h1 h2 => hm a (by unfold actS at *; omega) (by unfold actS at *; omega)) (fun i hi => r.2.1 _ (by omega)), fun k hk => ?_⟩
  · unfold RNG at *
    rw [hm 48 (by decide) (by decide)]
    exact r3
  · rw [m49, r.2.2.1]
    rcases p7 k hk with ⟨u1, u2, u3⟩ | u
    · exact Or.inl ⟨u1, u2, u3.mv hA h9 (fun a h1 h2 => hm a (by omega) (by omega)) (fun i hi => r.2.1 _ (by omega))⟩
    · exact Or.inr u
theorem LIVE.to {μ1 μ2 : gM} (h : LIVE μ1 μ2) (c : ∀ a, a < 267 → μ2 a = μ1 a) : LIVE μ2 μ2 := h.mv c rfl rfl rfl rfl rfl
theorem LIVE.fm {μ μ1 : gM} (h : LIVE μ μ) (x : ∀ a, 267 ≤ a → μ1 a = μ a) : LIVE μ μ1 := h.mv (fun _ _ => rfl) (x 269 (by decide)) (x 272 (by decide)) (x 273 (by decide)) (x 274 (by decide)) (congrFun (x 267 (by decide)) 20)
theorem stepW2 {μ : gM} {f : Option (Int32 × gM)} {g : gM → Option (Int32 × gM)} (h : Base μ) (hf : zH f (fun r => J true (μ 1 2) μ r.2)) (hg : ∀ (T : Int32) (C ν : gM), K T C ν → zH (g ν) (fun r => K T C r.2)) : ∃ (v v2 : Int32) (μ1 μ2 : gM), f = some (v, μ1) ∧ g μ1 = some (v2, μ2) ∧ Base μ2 ∧ Same μ μ2 ∧ (∀ a, 267 ≤ a → μ1 a = μ a) ∧ ∀ a, a < 267 → μ2 a = μ1 a := by
  obtain ⟨⟨v, μ1⟩, e1, h1⟩ := id hf
  have h1 : J true (μ 1 2) μ μ1 := h1
  have hx : ∀ a, 267 ≤ a → μ1 a = μ a := fun a ha => h1.2.2.2 a (Or.inr (Or.inl ha))
  obtain ⟨⟨v2, μ2⟩, e2, h2⟩ := hg _ _ _ (h.k hx)
  have h2 : K (μ 267 2) μ1 μ2 := h2
  obtain ⟨w, w2, m1, m2, f1, f2, b, s⟩ := stepW h hf hg
  rw [e1] at f1
  obtain ⟨rfl, rfl⟩ := Prod.mk.inj (Option.some.inj f1)
  rw [e2] at f2
  obtain ⟨rfl, rfl⟩ := Prod.mk.inj (Option.some.inj f2)
  exact ⟨v, v2, μ1, μ2, e1, e2, b, s, hx, fun a ha => h2.1.1 a (Or.inl ha)⟩
theorem THERE.t15 {μ : gM} {v : Int32} (h : THERE μ) (t : μ 4 0 = v) : μ 267 15 = v := h.1.symm.trans t
theorem INV.th {μ : gM} (h : INV μ) : (μ 4 0 = 0 ∧ μ 267 15 = 0 ∧ Z0 μ) ∨ (μ 4 0 = 1 ∧ μ 267 15 = 1 ∧ LIVE μ μ) := by
  have th := h.1.2.2.2.2.1
  rcases th.2 with t | t
  · exact Or.inl ⟨t, th.t15 t, h.2.2 t⟩
  · exact Or.inr ⟨t, th.t15 t, h.2.1 t⟩
theorem INV.mkL {μ : gM} (i : Inv5 μ) (t : μ 4 0 = 1) (l : LIVE μ μ) : INV μ := ⟨i, fun _ => l, fun w => absurd (t.symm.trans w) (by decide)⟩
theorem INV.mkD {μ : gM} (i : Inv5 μ) (t : μ 4 0 = 0) (z : Z0 μ) : INV μ := ⟨i, fun w => absurd (t.symm.trans w) (by decide), fun _ => z⟩
theorem Z0.u0 {μ : gM} (z : Z0 μ) : Z0 (gUp μ 267 0 0) := z.mv (zUp_ne _ (by decide)) (zUp_ne _ (by decide)) (zUp_ne _ (by decide)) (by rw [zUp_ne _ (by decide)]) (by rw [zUp_ne _ (by decide)])
theorem LIVE.u00 {μ : gM} (l : LIVE μ μ) : LIVE (gUp μ 267 0 0) (gUp μ 267 0 0) := l.mv (fun a ha => zUp_ne _ (by omega)) (zUp_ne _ (by decide)) (zUp_ne _ (by decide)) (zUp_ne _ (by decide)) (zUp_ne _ (by decide)) (zUp_slot _ (by decide))
theorem INV.u0 {μ : gM} (h : INV μ) : INV (gUp μ 267 0 0) := by
  have e4 : gUp μ 267 0 0 4 0 = μ 4 0 := by rw [zUp_ne _ (by decide)]
  exact ⟨h.1.u0, fun w => (h.2.1 (e4.symm.trans w)).u00, fun w => (h.2.2 (e4.symm.trans w)).u0⟩
/-- no net: no gates, links, groups -/
theorem INV.nc0 {μ : gM} (h : INV μ) (z : Z0 μ) : NET μ (gUp μ 267 0 0) ∧ ∃ ct, NC μ (gUp μ 267 0 0) 0 0 0 ct := by
  have nt : NET μ (gUp μ 267 0 0) := h.1.2.2.2.1.fr (fun _ _ _ => rfl) (zUp_ne _ (by decide))
  obtain ⟨cn, cl, cg, ct, nc⟩ := nt.nc
  have e0 : cn = 0 := nI_inj (by have := nc.1.1; omega) (by decide) (nc.2.1.1.symm.trans z.1.1)
  have e1 : cl = 0 := nI_inj (by have := nc.1.2.1; omega) (by decide) (nc.2.1.2.1.symm.trans z.1.2.1)
  have e2 : cg = 0 := nI_inj (by have := nc.1.2.2.1; omega) (by decide) (nc.2.1.2.2.1.symm.trans z.1.2.2)
  subst e0 e1 e2
  exact ⟨nt, ct, nc⟩
/-- what a dead call knows -/
def DEAD (μ : gM) : Prop := μ 4 0 = 0 ∧ gUp μ 267 0 0 267 15 = 0 ∧ Z0 μ ∧ NET μ (gUp μ 267 0 0) ∧ ∃ ct, NC μ (gUp μ 267 0 0) 0 0 0 ct
theorem INV.dead {μ : gM} (h : INV μ) (t : μ 4 0 = 0) (t2 : μ 267 15 = 0) (z : Z0 μ) : DEAD μ := ⟨t, by rw [zUp_slot _ (by decide)]; exact t2, z, h.nc0 z⟩
theorem INV.rd {μ : gM} {f : Option Int32} {g : gM → Option (Int32 × gM)} (h : INV μ) (pa : LIVE μ μ → μ 4 0 = 1 → μ 267 15 = 1 → ∃ v, f = some v ∧ g μ = some (v, gUp μ 267 0 0)) (dd : DEAD μ → ∃ v, f = some v ∧ g μ = some (v, gUp μ 267 0 0)) : ∃ (v : Int32) (μ2 : gM), f = some v ∧ g μ = some (v, μ2) ∧ INV μ2 := by
  rcases h.th with ⟨t, t2, z⟩ | ⟨t, t2, l⟩
  · obtain ⟨v, e1, e2⟩ := dd (h.dead t t2 z)
    exact ⟨v, _, e1, e2, h.u0⟩
  · obtain ⟨v, e1, e2⟩ := pa l t t2
    exact ⟨v, _, e1, e2, h.u0⟩
theorem INV.act {μ : gM} {f : Option (Int32 × gM)} {g : gM → Option (Int32 × gM)} (h : INV μ) (hf : zH f (fun r => J true (μ 1 2) μ r.2)) (hg : ∀ (T : Int32) (C ν : gM), K T C ν → zH (g ν) (fun r => K T C r.2)) (pa : ∀ ξ, LIVE μ ξ → μ 4 0 = 1 → ξ 267 15 = 1 → ∃ v μ' ξ', f = some (v, μ') ∧ g ξ = some (v, ξ') ∧ LIVE μ' ξ') (dd : DEAD μ → ∃ v, f = some (v, μ) ∧ g μ = some (v, gUp μ 267 0 0)) : ∃ (v : Int32) (μ1 μ2 : gM), f = some (v, μ1) ∧ g μ1 = some (v, μ2) ∧ INV μ2 := by
  rcases h.th with ⟨t, t2, z⟩ | ⟨t, t2, l⟩
  · obtain ⟨v, e1, e2⟩ := dd (h.dead t t2 z)
    exact ⟨v, μ, _, e1, e2, h.u0⟩
  · obtain ⟨v, v2, m1, m2, e1, e2, b, s, x, c⟩ := stepW2 h.1.1 hf hg
    obtain ⟨w, n1, n2, f1, f2, l2⟩ := pa m1 (l.fm x) t (by rw [x 267 (by decide)]; exact t2)
    rw [e1] at f1
    obtain ⟨rfl, rfl⟩ := Prod.mk.inj (Option.some.inj f1)
    rw [e2] at f2
    obtain ⟨rfl, rfl⟩ := Prod.mk.inj (Option.some.inj f2)
    exact ⟨_, m1, m2, e1, e2, INV.mkL (h.1.same b s) (by rw [s.1 4 (by decide)]; exact t) (l2.to c)⟩
theorem RB.rf (m : gM) : RB m m := ⟨fun _ _ => rfl, fun _ _ => rfl, rfl, rfl⟩
/-- on paper, and of slots: nothing that lives is touched -/
theorem INV.pp {μ : gM} {f : Option (Int32 × gM)} {g : gM → Option (Int32 × gM)} (h : INV μ) (hf : zH f (fun r => J true (μ 1 2) μ r.2)) (hg : ∀ (T : Int32) (C ν : gM), K T C ν → zH (g ν) (fun r => K T C r.2)) (fc : kc μ μ → zF Prod.snd (kc μ) f) (fr : ∀ ν, RB ν ν → zF Prod.snd (RB ν) (g ν)) : ∃ (v v2 : Int32) (μ1 μ2 : gM), f = some (v, μ1) ∧ g μ1 = some (v2, μ2) ∧ INV μ2 := by
  obtain ⟨v, v2, m1, m2, e1, e2, b, s, x, c⟩ := stepW2 h.1.1 hf hg
  have k : kc μ m1 := fc (fun _ _ => rfl) _ e1
  have r : RB m1 m2 := fr m1 (RB.rf m1) _ e2
  have r' : RB μ m2 := ⟨fun i hi => by rw [r.1 i hi, x 272 (by decide)], fun i hi => by rw [r.2.1 i hi, x 273 (by decide)], by rw [r.2.2.1, x 274 (by decide)], by rw [r.2.2.2, x 267 (by decide)]⟩
  have hm : ∀ a, a < 248 → m2 a = μ a := fun a ha => (c a (by omega)).trans (k a ha)
  refine ⟨v, v2, m1, m2, e1, e2, h.1.same b s, fun w => ?_, fun w => ?_⟩
  · rw [hm 4 (by decide)] at w
    exact (h.2.1 w).mv3 (fun a _ h2 => hm a h2) s.2.2.1 r'
  · rw [hm 4 (by decide)] at w
    exact (h.2.2 w).mv (hm 5 (by decide)) (hm 35 (by decide)) (hm 37 (by decide)) (r'.1 8 (by decide)) (r'.1 7 (by decide))
theorem feedX {a b c d e v w : Int32} {μ μ1 μ2 : gM} (h1 : fX11_feed a b c d e μ = some (v, μ1)) (h2 : fX12_feed a b c d e μ1 = some (w, μ2)) : (∀ x, x ≠ 1 → x ≠ 2 → x ≠ 267 → x ≠ 268 → μ2 x = μ x) ∧ μ2 267 20 = μ 267 20 := by
  have c1 : ∀ x, x ≠ 1 → x ≠ 2 → μ1 x = μ x := fun x q1 q2 => by
    unfold fX11_feed at h1
    by_cases c : ((μ 1 2) + (20 : Int32)) ≤ (1500 : Int32)
    · rw [if_pos c] at h1
      obtain ⟨ν1, e1, h1⟩ := bdI h1
      obtain ⟨ν2, e2, h1⟩ := bdI h1
      obtain ⟨ν3, e3, h1⟩ := bdI h1
      obtain ⟨ν4, e4, h1⟩ := bdI h1
      obtain ⟨ν5, e5, h1⟩ := bdI h1
      obtain ⟨rfl, rfl⟩ := Prod.mk.inj (Option.some.inj h1)
      unfold fX7_append at e1 e2 e3 e4 e5
      rw [(apI _ _ _ _ e5).1 x q1 q2, (apI _ _ _ _ e4).1 x q1 q2, (apI _ _ _ _ e3).1 x q1 q2, (apI _ _ _ _ e2).1 x q1 q2, (apI _ _ _ _ e1).1 x q1 q2]
    · rw [if_neg c] at h1
      obtain ⟨rfl, rfl⟩ := Prod.mk.inj (Option.some.inj h1)
      rfl
  have c2 : (∀ x, x ≠ 267 → x ≠ 268 → μ2 x = μ1 x) ∧ μ2 267 20 = μ1 267 20 := by
    unfold fX12_feed at h2
    rw [zLt_eq] at h2
    by_cases c : (gUp μ1 267 0 0 267 2 + (20 : Int32)) ≤ (1500 : Int32)
    · rw [if_pos c] at h2
      obtain ⟨ν1, e1, h2⟩ := bdI h2
      obtain ⟨ν2, e2, h2⟩ := bdI h2
      obtain ⟨ν3, e3, h2⟩ := bdI h2
      obtain ⟨ν4, e4, h2⟩ := bdI h2
      obtain ⟨ν5, e5, h2⟩ := bdI h2
      obtain ⟨rfl, rfl⟩ := Prod.mk.inj (Option.some.inj h2)
      unfold fX12_puts at e1 e2 e3 e4 e5
      exact ⟨fun x q1 q2 => by rw [(puI _ _ _ _ e5).1 x q1 q2, (puI _ _ _ _ e4).1 x q1 q2, (puI _ _ _ _ e3).1 x q1 q2, (puI _ _ _ _ e2).1 x q1 q2, (puI _ _ _ _ e1).1 x q1 q2, zUp_ne _ q1], by rw [(puI _ _ _ _ e5).2 20 (by decide), (puI _ _ _ _ e4).2 20 (by decide), (puI _ _ _ _ e3).2 20 (by decide), (puI _ _ _ _ e2).2 20 (by decide), (puI _ _ _ _ e1).2 20 (by decide), zUp_slot _ (by decide)]⟩
    · rw [if_neg c] at h2
      obtain ⟨rfl, rfl⟩ := Prod.mk.inj (Option.some.inj h2)
      exact ⟨fun x q1 q2 => zUp_ne _ q1, zUp_slot _ (by decide)⟩
  exact ⟨fun x q1 q2 q3 q4 => (c2.1 x q3 q4).trans (c1 x q1 q2), by rw [c2.2, c1 267 (by decide) (by decide)]⟩
/-- a call that leaves all but the tape -/
theorem INV.tp {μ μ2 : gM} (h : INV μ) (i : Inv5 μ2) (c : ∀ x, x ≠ 1 → x ≠ 2 → x ≠ 267 → x ≠ 268 → μ2 x = μ x) (h20 : μ2 267 20 = μ 267 20) : INV μ2 := by
  have e4 := c 4 (by decide) (by decide) (by decide) (by decide)
  refine ⟨i, fun w => ?_, fun w => ?_⟩
  · rw [e4] at w
    exact (h.2.1 w).mv2 (fun a ha => c a (by omega) (by omega) (by omega) (by omega)) (c 269 (by decide) (by decide) (by decide) (by decide)) (c 272 (by decide) (by decide) (by decide) (by decide)) (c 273 (by decide) (by decide) (by decide) (by decide)) (c 274 (by decide) (by decide) (by decide) (by decide)) h20
  · rw [e4] at w
    exact (h.2.2 w).mv (c 5 (by decide) (by decide) (by decide) (by decide)) (c 35 (by decide) (by decide) (by decide) (by decide)) (c 37 (by decide) (by decide) (by decide) (by decide)) (by rw [c 272 (by decide) (by decide) (by decide) (by decide)]) (by rw [c 272 (by decide) (by decide) (by decide) (by decide)])
theorem INV.feed {a b c d e : Int32} {μ : gM} (h : INV μ) : ∃ (v : Int32) (μ1 μ2 : gM), fX11_feed a b c d e μ = some (v, μ1) ∧ fX12_feed a b c d e μ1 = some (v, μ2) ∧ INV μ2 := by
  obtain ⟨v, m1, m2, e1, e2, i⟩ := h.1.feed (a := a) (b := b) (c := c) (d := d) (e := e)
  obtain ⟨f1, f2⟩ := feedX e1 e2
  exact ⟨v, m1, m2, e1, e2, h.tp i f1 f2⟩
theorem endX {a v w : Int32} {μ μ1 μ2 : gM} (h1 : fX11_end a μ = some (v, μ1)) (h2 : fX12_end a μ1 = some (w, μ2)) : (∀ x, x ≠ 1 → x ≠ 2 → x ≠ 267 → x ≠ 268 → μ2 x = μ x) ∧ μ2 267 20 = μ 267 20 := by
  have c1 : ∀ x, x ≠ 1 → μ1 x = μ x := fun x q1 => by
    unfold fX11_end at h1
    by_cases c : a < 0
    · rw [if_pos c] at h1
      obtain ⟨rfl, rfl⟩ := Prod.mk.inj (Option.some.inj h1)
      rfl
    · rw [if_neg c] at h1
      by_cases d : a ≤ μ 1 2
      · rw [if_pos d, zLt_eq] at h1
        obtain ⟨rfl, rfl⟩ := Prod.mk.inj (Option.some.inj h1)
        exact zUp_ne _ q1
      · rw [if_neg d] at h1
        obtain ⟨rfl, rfl⟩ := Prod.mk.inj (Option.some.inj h1)
        rfl
  have c2 : (∀ x, x ≠ 267 → μ2 x = μ1 x) ∧ μ2 267 20 = μ1 267 20 := by
    unfold fX12_end at h2
    rw [zLt_eq] at h2
    obtain ⟨y, e, h2⟩ := bdI h2
    by_cases d : y = 0
    · rw [if_pos d] at h2
      obtain ⟨rfl, rfl⟩ := Prod.mk.inj (Option.some.inj h2)
      exact ⟨fun x q => zUp_ne _ q, zUp_slot _ (by decide)⟩
    · rw [if_neg d, zLt_eq] at h2
      obtain ⟨rfl, rfl⟩ := Prod.mk.inj (Option.some.inj h2)
      exact ⟨fun x q => by rw [zUp_ne _ q, zUp_ne _ q], by rw [zUp_slot _ (by decide), zUp_slot _ (by decide)]⟩
  exact ⟨fun x q1 q2 q3 q4 => (c2.1 x q3).trans (c1 x q1), by rw [c2.2, c1 267 (by decide)]⟩
theorem INV.fin {a : Int32} {μ : gM} (h : INV μ) : ∃ (v : Int32) (μ1 μ2 : gM), fX11_end a μ = some (v, μ1) ∧ fX12_end a μ1 = some (v, μ2) ∧ INV μ2 := by
  obtain ⟨v, m1, m2, e1, e2, i⟩ := h.1.fin (a := a)
  obtain ⟨f1, f2⟩ := endX e1 e2
  exact ⟨v, m1, m2, e1, e2, h.tp i f1 f2⟩
theorem INV.net {μ : gM} (h : INV μ) : ∃ (v : Int32) (μ1 μ2 : gM), fX11_net μ = some (v, μ1) ∧ fX12_net μ1 = some (v, μ2) ∧ INV μ2 := by
  obtain ⟨v, m1, m2, e1, e2, i⟩ := h.1.net
  refine ⟨v, m1, m2, e1, e2, ?_⟩
  obtain ⟨w, n1, n2, f1, f2, -, -, -, -, c⟩ := stepNetN h.1.1 h.1.2.1 h.1.2.2.1
  rw [e1] at f1
  obtain ⟨rfl, rfl⟩ := Prod.mk.inj (Option.some.inj f1)
  rw [e2] at f2
  obtain ⟨-, rfl⟩ := Prod.mk.inj (Option.some.inj f2)
  rcases c with c | ⟨c, d⟩
  · have e4 := c.1 4 (by decide) (by decide) (by decide)
    refine ⟨i, fun w => ?_, fun w => ?_⟩
    · rw [e4] at w
      exact (h.2.1 w).mv2 (fun a ha => c.1 a (by omega) (by omega) (by omega)) (c.2.1 269 (by decide) (by decide)) (c.2.1 272 (by decide) (by decide)) (c.2.1 273 (by decide) (by decide)) (c.2.1 274 (by decide) (by decide)) (c.2.2 20 (by decide))
    · rw [e4] at w
      exact (h.2.2 w).mv (c.1 5 (by decide) (by decide) (by decide)) (c.1 35 (by decide) (by decide) (by decide)) (c.1 37 (by decide) (by decide) (by decide)) (by rw [c.2.1 272 (by decide) (by decide)]) (by rw [c.2.1 272 (by decide) (by decide)])
  · exact INV.mkL i (c.there d).1 (c.live.to d)
theorem INV.plan {μ : gM} (h : INV μ) : ∃ (v : Int32) (μ1 μ2 : gM), fX11_plan μ = some (v, μ1) ∧ fX12_plan μ1 = some (v, μ2) ∧ INV μ2 := by
  obtain ⟨v, m1, m2, e1, e2, i⟩ := h.1.plan
  refine ⟨v, m1, m2, e1, e2, ?_⟩
  rcases h.th with ⟨t, t2, z⟩ | ⟨t, t2, l⟩
  · unfold fX11_plan at e1
    rw [if_pos t, zLt_eq] at e1
    obtain ⟨-, rfl⟩ := Prod.mk.inj (Option.some.inj e1)
    unfold fX12_plan at e2
    rw [zLt_eq, if_pos (show gUp (gUp μ 1 2 0) 267 0 0 267 15 = 0 by rw [zUp_slot _ (by decide), zUp_ne _ (by decide)]; exact t2), zLt_eq] at e2
    obtain ⟨-, rfl⟩ := Prod.mk.inj (Option.some.inj e2)
    exact h.tp i (fun x q1 q2 q3 q4 => by rw [zUp_ne _ q3, zUp_ne _ q3, zUp_ne _ q1]) (by rw [zUp_slot _ (by decide), zUp_slot _ (by decide), zUp_ne _ (by decide)])
  · have l2 := planLive h.1.1 h.1.2.1 h.1.2.2.1 h.1.2.2.2.1 t t2 l e1 e2
    obtain ⟨⟨v', n1⟩, g1, j1⟩ := tX11_plan h.1.1.1.weak
    rw [e1] at g1
    obtain ⟨rfl, rfl⟩ := Prod.mk.inj (Option.some.inj g1)
    have j1 : J false 0 μ m1 := j1
    have hx : ∀ a, 267 ≤ a → m1 a = μ a := fun a ha => j1.2.2.2 a (Or.inr (Or.inl ha))
    obtain ⟨⟨v2, n2⟩, g2, -, k3, -⟩ := tX12_plan (h.1.1.k hx)
    rw [e2] at g2
    obtain ⟨-, rfl⟩ := Prod.mk.inj (Option.some.inj g2)
    have k3 : ∀ a, a < 267 ∨ a = 268 ∨ a = 269 → m2 a = m1 a := k3
    have e4 : m2 4 0 = 1 := by
      rw [k3 4 (by omega), j1.2.2.2 4 (Or.inl (by decide))]
      exact t
    exact INV.mkL i e4 (l2.to (fun a ha => k3 a (Or.inl ha)))
theorem INV.fault {a1 : Int32} {μ : gM} (h : INV μ) : ∃ (v : Int32) (μ2 : gM), fX11_fault a1 μ = some v ∧ fX12_fault a1 μ = some (v, μ2) ∧ INV μ2 := by
  obtain ⟨v, e1, e2⟩ := pFaultQ (a1 := a1) h.1.2.2.2.2.2
  exact ⟨v, _, e1, e2, h.u0⟩
theorem INV.letter {a1 a2 a3 : Int32} {μ : gM} (h : INV μ) : ∃ (v : Int32) (μ2 : gM), fX11_letter a1 a2 a3 μ = some v ∧ fX12_letter a1 a2 a3 μ = some (v, μ2) ∧ INV μ2 := by
  obtain ⟨v, e1, e2⟩ := pLetter (a1 := a1) (a2 := a2) (a3 := a3) h.1.2.2.2.1
  exact ⟨v, _, e1, e2, h.u0⟩
theorem INV.track {a1 a2 : Int32} {μ : gM} (h : INV μ) : ∃ (v : Int32) (μ2 : gM), fX11_track a1 a2 μ = some v ∧ fX12_track a1 a2 μ = some (v, μ2) ∧ INV μ2 := by
  obtain ⟨v, e1, e2⟩ := pTrackQ (a1 := a1) (a2 := a2) h.1.2.2.2.1
  exact ⟨v, _, e1, e2, h.u0⟩
theorem d_has {a1 : Int32} {μ : gM} (d : DEAD μ) : ∃ v, fX11_has a1 μ = some v ∧ fX12_has a1 μ = some (v, gUp μ 267 0 0) := by
  obtain ⟨t, t2, z, nt, ct, nc⟩ := d
  unfold fX11_has fX12_has
  rw [zLt_eq]
  rw [if_pos t, if_pos t2]
  exact ⟨_, rfl, rfl⟩
theorem INV.has {a1 : Int32} {μ : gM} (h : INV μ) : ∃ (v : Int32) (μ2 : gM), fX11_has a1 μ = some v ∧ fX12_has a1 μ = some (v, μ2) ∧ INV μ2 := h.rd (fun l t t2 => pHasQ (a1 := a1) l t t2) (fun d => d_has (a1 := a1) d)
theorem d_group {a1 a2 : Int32} {μ : gM} (d : DEAD μ) : ∃ v, fX11_group a1 a2 μ = some v ∧ fX12_group a1 a2 μ = some (v, gUp μ 267 0 0) := by
  obtain ⟨t, t2, z, nt, ct, nc⟩ := d
  unfold fX11_group fX12_group
  rw [zLt_eq]
  rcases groupG (a1 := a1) nc with ⟨k, hk, -⟩ | ⟨g1, g2⟩
  · omega
  · rw [g1, g2, zBd_some, zBd_some, if_pos rfl, if_pos rfl]
    exact ⟨_, rfl, rfl⟩
theorem INV.group {a1 a2 : Int32} {μ : gM} (h : INV μ) : ∃ (v : Int32) (μ2 : gM), fX11_group a1 a2 μ = some v ∧ fX12_group a1 a2 μ = some (v, μ2) ∧ INV μ2 := h.rd (fun l t t2 => pGroupQ (a1 := a1) (a2 := a2) l) (fun d => d_group (a1 := a1) (a2 := a2) d)
theorem d_member {a1 a2 a3 : Int32} {μ : gM} (d : DEAD μ) : ∃ v, fX11_member a1 a2 a3 μ = some v ∧ fX12_member a1 a2 a3 μ = some (v, gUp μ 267 0 0) := by
  obtain ⟨t, t2, z, nt, ct, nc⟩ := d
  unfold fX11_member fX12_member
  rw [zLt_eq, zLt_eq]
  rcases memG (a1 := a1) (a2 := a2) nt nc with ⟨g, k, m, -⟩ | ⟨g1, g2⟩
  · exact absurd (nt.mlt nc m).1 (by omega)
  · rw [g1, g2, zBd_some, zBd_some, if_pos rfl, if_pos rfl]
    exact ⟨_, rfl, rfl⟩
theorem INV.member {a1 a2 a3 : Int32} {μ : gM} (h : INV μ) : ∃ (v : Int32) (μ2 : gM), fX11_member a1 a2 a3 μ = some v ∧ fX12_member a1 a2 a3 μ = some (v, μ2) ∧ INV μ2 := h.rd (fun l t t2 => pMemberQ (a1 := a1) (a2 := a2) (a3 := a3) l) (fun d => d_member (a1 := a1) (a2 := a2) (a3 := a3) d)
theorem d_event {a1 a2 : Int32} {μ : gM} (d : DEAD μ) : ∃ v, fX11_event a1 a2 μ = some v ∧ fX12_event a1 a2 μ = some (v, gUp μ 267 0 0) := by
  obtain ⟨t, t2, z, -⟩ := d
  have z8 := z.u0.2.2.1
  unfold fX12_event
  rw [zLt_eq]
  generalize gUp μ 267 0 0 = ζ at z8 ⊢
  exact pEventQ0 (n := 0) (by decide) z.2.1.1 z8 (fun i hi => absurd hi (by omega))
theorem INV.event {a1 a2 : Int32} {μ : gM} (h : INV μ) : ∃ (v : Int32) (μ2 : gM), fX11_event a1 a2 μ = some v ∧ fX12_event a1 a2 μ = some (v, μ2) ∧ INV μ2 := h.rd (fun l t t2 => pEventQ (a1 := a1) (a2 := a2) l) (fun d => d_event (a1 := a1) (a2 := a2) d)
theorem d_holder {a1 a2 : Int32} {μ : gM} (d : DEAD μ) : ∃ v, fX11_holder a1 a2 μ = some v ∧ fX12_holder a1 a2 μ = some (v, gUp μ 267 0 0) := by
  obtain ⟨t, t2, z, nt, ct, nc⟩ := d
  unfold fX11_holder fX12_holder
  rw [zLt_eq]
  rcases pairG (a1 := a1) (a2 := a2) nc with ⟨g, k, hg, -⟩ | ⟨g1, g2 | ⟨g2, g3⟩⟩
  · omega
  · rw [g1, g2, zBd_some, zBd_some, if_pos rfl, if_pos rfl]
    exact ⟨_, rfl, rfl⟩
  · rw [g1, g2, zBd_some, zBd_some, if_pos rfl, if_neg one_n0, g3, zBd_some, if_pos rfl]
    exact ⟨_, rfl, rfl⟩
theorem INV.holder {a1 a2 : Int32} {μ : gM} (h : INV μ) : ∃ (v : Int32) (μ2 : gM), fX11_holder a1 a2 μ = some v ∧ fX12_holder a1 a2 μ = some (v, μ2) ∧ INV μ2 := h.rd (fun l t t2 => pHolderQ (a1 := a1) (a2 := a2) l) (fun d => d_holder (a1 := a1) (a2 := a2) d)
theorem d_doubles {μ : gM} (d : DEAD μ) : ∃ v, fX11_doubles μ = some v ∧ fX12_doubles μ = some (v, gUp μ 267 0 0) := by
  obtain ⟨t, t2, z, nt, ct, nc⟩ := d
  unfold fX11_doubles fX12_doubles
  rw [zLt_eq]
  rw [if_pos t, if_pos t2]
  exact ⟨_, rfl, rfl⟩
theorem INV.doubles {μ : gM} (h : INV μ) : ∃ (v : Int32) (μ2 : gM), fX11_doubles μ = some v ∧ fX12_doubles μ = some (v, μ2) ∧ INV μ2 := h.rd (fun l t t2 => pDoublesQ  l t t2) (fun d => d_doubles  d)
theorem d_orphans {μ : gM} (d : DEAD μ) : ∃ v, fX11_orphans μ = some v ∧ fX12_orphans μ = some (v, gUp μ 267 0 0) := by
  obtain ⟨t, t2, z, nt, ct, nc⟩ := d
  unfold fX11_orphans fX12_orphans
  rw [zLt_eq]
  rw [if_pos t, if_pos t2]
  exact ⟨_, rfl, rfl⟩
theorem INV.orphans {μ : gM} (h : INV μ) : ∃ (v : Int32) (μ2 : gM), fX11_orphans μ = some v ∧ fX12_orphans μ = some (v, μ2) ∧ INV μ2 := h.rd (fun l t t2 => pOrphansQ  l t t2) (fun d => d_orphans  d)
theorem d_holds {a1 : Int32} {μ : gM} (d : DEAD μ) : ∃ v, fX11_holds a1 μ = some v ∧ fX12_holds a1 μ = some (v, gUp μ 267 0 0) := by
  obtain ⟨t, t2, z, nt, ct, nc⟩ := d
  unfold fX11_holds fX12_holds
  rw [zLt_eq]
  rcases gateG (a1 := a1) nc with ⟨k, hk, -⟩ | ⟨g1, g2⟩
  · omega
  · rw [g1, g2, zBd_some, zBd_some, if_pos rfl, if_pos rfl]
    exact ⟨_, rfl, rfl⟩
theorem INV.holds {a1 : Int32} {μ : gM} (h : INV μ) : ∃ (v : Int32) (μ2 : gM), fX11_holds a1 μ = some v ∧ fX12_holds a1 μ = some (v, μ2) ∧ INV μ2 := h.rd (fun l t t2 => pHoldsQ (a1 := a1) l) (fun d => d_holds (a1 := a1) d)
theorem d_rank {a1 a2 : Int32} {μ : gM} (d : DEAD μ) : ∃ v, fX11_rank a1 a2 μ = some v ∧ fX12_rank a1 a2 μ = some (v, gUp μ 267 0 0) := by
  obtain ⟨t, t2, z, nt, ct, nc⟩ := d
  unfold fX11_rank fX12_rank
  rw [zLt_eq, zLt_eq]
  rcases groupG (a1 := a1) nc with ⟨k, hk, -⟩ | ⟨g1, g2⟩
  · omega
  · rw [g1, g2, zBd_some, zBd_some, if_pos rfl, if_pos rfl]
    exact ⟨_, rfl, rfl⟩
theorem INV.rank {a1 a2 : Int32} {μ : gM} (h : INV μ) : ∃ (v : Int32) (μ2 : gM), fX11_rank a1 a2 μ = some v ∧ fX12_rank a1 a2 μ = some (v, μ2) ∧ INV μ2 := h.rd (fun l t t2 => pRankQ (a1 := a1) (a2 := a2) l) (fun d => d_rank (a1 := a1) (a2 := a2) d)
theorem d_log {a1 a2 : Int32} {μ : gM} (d : DEAD μ) : ∃ v, fX11_log a1 a2 μ = some v ∧ fX12_log a1 a2 μ = some (v, gUp μ 267 0 0) := by
  obtain ⟨t, t2, z, -⟩ := d
  have z7 := z.u0.2.2.2
  unfold fX12_log
  rw [zLt_eq]
  generalize gUp μ 267 0 0 = ζ at z7 ⊢
  exact pLogQ0 (n := 0) (c := 0) (by decide) (by decide) z.2.1.2.2 z.2.1.2.1 z7 (fun i j hi => absurd hi (by omega))
theorem INV.log {a1 a2 : Int32} {μ : gM} (h : INV μ) : ∃ (v : Int32) (μ2 : gM), fX11_log a1 a2 μ = some v ∧ fX12_log a1 a2 μ = some (v, μ2) ∧ INV μ2 := h.rd (fun l t t2 => pLogQ (a1 := a1) (a2 := a2) l) (fun d => d_log (a1 := a1) (a2 := a2) d)
theorem d_ticks {a1 : Int32} {μ : gM} (d : DEAD μ) : ∃ v, fX11_ticks a1 μ = some (v, μ) ∧ fX12_ticks a1 μ = some (v, gUp μ 267 0 0) := by
  obtain ⟨t, t2, z, nt, ct, nc⟩ := d
  unfold fX11_ticks fX12_ticks
  rw [zLt_eq]
  rw [if_pos t, if_pos t2]
  exact ⟨_, rfl, rfl⟩
theorem INV.ticks {a1 : Int32} {μ : gM} (h : INV μ) : ∃ (v : Int32) (μ1 μ2 : gM), fX11_ticks a1 μ = some (v, μ1) ∧ fX12_ticks a1 μ1 = some (v, μ2) ∧ INV μ2 := h.act (tX11_ticks h.1.1.1) (fun _ _ _ k => tX12_ticks k) (fun ξ l t t2 => pTicksA (a1 := a1) l t t2) (fun d => d_ticks (a1 := a1) d)
theorem d_up {a1 : Int32} {μ : gM} (d : DEAD μ) : ∃ v, fX11_up a1 μ = some (v, μ) ∧ fX12_up a1 μ = some (v, gUp μ 267 0 0) := by
  obtain ⟨t, t2, z, nt, ct, nc⟩ := d
  unfold fX11_up fX12_up
  rw [zLt_eq]
  rcases gateG (a1 := a1) nc with ⟨k, hk, -⟩ | ⟨g1, g2⟩
  · omega
  · rw [g1, g2, zBd_some, zBd_some, if_pos rfl, if_pos rfl]
    exact ⟨_, rfl, rfl⟩
theorem INV.up {a1 : Int32} {μ : gM} (h : INV μ) : ∃ (v : Int32) (μ1 μ2 : gM), fX11_up a1 μ = some (v, μ1) ∧ fX12_up a1 μ1 = some (v, μ2) ∧ INV μ2 := h.act (tX11_up h.1.1.1) (fun _ _ _ k => tX12_up k) (fun ξ l t t2 => pUpA (a1 := a1) l) (fun d => d_up (a1 := a1) d)
theorem d_down {a1 a2 : Int32} {μ : gM} (d : DEAD μ) : ∃ v, fX11_down a1 a2 μ = some (v, μ) ∧ fX12_down a1 a2 μ = some (v, gUp μ 267 0 0) := by
  obtain ⟨t, t2, z, nt, ct, nc⟩ := d
  unfold fX11_down fX12_down
  rw [zLt_eq]
  rcases gateG (a1 := a1) nc with ⟨k, hk, -⟩ | ⟨g1, g2⟩
  · omega
  · rw [g1, g2, zBd_some, zBd_some, if_pos rfl, if_pos rfl]
    exact ⟨_, rfl, rfl⟩
theorem INV.down {a1 a2 : Int32} {μ : gM} (h : INV μ) (hb : a2 = 0 ∨ a2 = 1) : ∃ (v : Int32) (μ1 μ2 : gM), fX11_down a1 a2 μ = some (v, μ1) ∧ fX12_down a1 a2 μ1 = some (v, μ2) ∧ INV μ2 := h.act (tX11_down h.1.1.1) (fun _ _ _ k => tX12_down k) (fun ξ l t t2 => pDownA (a1 := a1) (a2 := a2) l hb) (fun d => d_down (a1 := a1) (a2 := a2) d)
theorem d_cut {a1 a2 : Int32} {μ : gM} (d : DEAD μ) : ∃ v, fX11_cut a1 a2 μ = some (v, μ) ∧ fX12_cut a1 a2 μ = some (v, gUp μ 267 0 0) := by
  obtain ⟨t, t2, z, nt, ct, nc⟩ := d
  unfold fX11_cut fX12_cut
  rw [zLt_eq]
  rcases linkG (a1 := a1) nc with ⟨k, hk, -⟩ | ⟨g1, g2⟩
  · omega
  · rw [g1, g2, zBd_some, zBd_some, if_pos rfl, if_pos rfl]
    exact ⟨_, rfl, rfl⟩
theorem INV.cut {a1 a2 : Int32} {μ : gM} (h : INV μ) : ∃ (v : Int32) (μ1 μ2 : gM), fX11_cut a1 a2 μ = some (v, μ1) ∧ fX12_cut a1 a2 μ1 = some (v, μ2) ∧ INV μ2 := h.act (tX11_cut h.1.1.1) (fun _ _ _ k => tX12_cut k) (fun ξ l t t2 => pCutA (a1 := a1) (a2 := a2) l) (fun d => d_cut (a1 := a1) (a2 := a2) d)
theorem d_split {a1 : Int32} {μ : gM} (d : DEAD μ) : ∃ v, fX11_split a1 μ = some (v, μ) ∧ fX12_split a1 μ = some (v, gUp μ 267 0 0) := by
  obtain ⟨t, t2, z, nt, ct, nc⟩ := d
  unfold fX11_split fX12_split
  rw [zLt_eq]
  rw [if_pos t, if_pos t2]
  exact ⟨_, rfl, rfl⟩
theorem INV.split {a1 : Int32} {μ : gM} (h : INV μ) : ∃ (v : Int32) (μ1 μ2 : gM), fX11_split a1 μ = some (v, μ1) ∧ fX12_split a1 μ1 = some (v, μ2) ∧ INV μ2 := h.act (tX11_split h.1.1.1) (fun _ _ _ k => tX12_split k) (fun ξ l t t2 => pSplitA (a1 := a1) l t t2) (fun d => d_split (a1 := a1) d)
theorem d_word {a1 a2 a3 : Int32} {μ : gM} (d : DEAD μ) : ∃ v, fX11_word a1 a2 a3 μ = some (v, μ) ∧ fX12_word a1 a2 a3 μ = some (v, gUp μ 267 0 0) := by
  obtain ⟨t, t2, z, nt, ct, nc⟩ := d
  unfold fX11_word fX12_word
  rw [zLt_eq]
  rcases memG (a1 := a1) (a2 := a2) nt nc with ⟨g, k, m, -⟩ | ⟨g1, g2⟩
  · exact absurd (nt.mlt nc m).1 (by omega)
  · rw [g1, g2, zBd_some, zBd_some, if_pos rfl, if_pos rfl]
    exact ⟨_, rfl, rfl⟩
theorem INV.word {a1 a2 a3 : Int32} {μ : gM} (h : INV μ) : ∃ (v : Int32) (μ1 μ2 : gM), fX11_word a1 a2 a3 μ = some (v, μ1) ∧ fX12_word a1 a2 a3 μ1 = some (v, μ2) ∧ INV μ2 := h.act (tX11_word h.1.1.1) (fun _ _ _ k => tX12_word k) (fun ξ l t t2 => pWordA (a1 := a1) (a2 := a2) (a3 := a3) l) (fun d => d_word (a1 := a1) (a2 := a2) (a3 := a3) d)
theorem d_chance {a1 a2 : Int32} {μ : gM} (d : DEAD μ) : ∃ v, fX11_chance a1 a2 μ = some (v, μ) ∧ fX12_chance a1 a2 μ = some (v, gUp μ 267 0 0) := by
  obtain ⟨t, t2, z, nt, ct, nc⟩ := d
  unfold fX11_chance fX12_chance
  rw [zLt_eq]
  rw [if_pos t, if_pos t2]
  exact ⟨_, rfl, rfl⟩
theorem INV.chance {a1 a2 : Int32} {μ : gM} (h : INV μ) : ∃ (v : Int32) (μ1 μ2 : gM), fX11_chance a1 a2 μ = some (v, μ1) ∧ fX12_chance a1 a2 μ1 = some (v, μ2) ∧ INV μ2 := h.act (tX11_chance h.1.1.1) (fun _ _ _ k => tX12_chance k) (fun ξ l t t2 => pChanceA (a1 := a1) (a2 := a2) l t t2) (fun d => d_chance (a1 := a1) (a2 := a2) d)
theorem d_undo {μ : gM} (d : DEAD μ) : ∃ v, fX11_undo μ = some (v, μ) ∧ fX12_undo μ = some (v, gUp μ 267 0 0) := by
  obtain ⟨t, t2, z, nt, ct, nc⟩ := d
  unfold fX11_undo fX12_undo
  rw [zLt_eq]
  rw [if_pos t, if_pos t2]
  exact ⟨_, rfl, rfl⟩
theorem INV.undo {μ : gM} (h : INV μ) : ∃ (v : Int32) (μ1 μ2 : gM), fX11_undo μ = some (v, μ1) ∧ fX12_undo μ1 = some (v, μ2) ∧ INV μ2 := h.act (tX11_undo h.1.1.1) (fun _ _ _ k => tX12_undo k) (fun ξ l t t2 => pUndoA  l t t2) (fun d => d_undo  d)
theorem d_keep {a1 : Int32} {μ : gM} (d : DEAD μ) : ∃ v, fX11_keep a1 μ = some (v, μ) ∧ fX12_keep a1 μ = some (v, gUp μ 267 0 0) := by
  obtain ⟨t, t2, z, nt, ct, nc⟩ := d
  unfold fX11_keep fX12_keep
  rw [zLt_eq]
  rw [if_pos t, mIn32 _ (y := 0) (z := 1) rfl rfl, zBd_some]
  by_cases c : 0 ≤ a1.toInt ∧ a1.toInt ≤ 1
  · rw [if_pos c, if_neg one_n0, if_pos t2]
    exact ⟨_, rfl, rfl⟩
  · rw [if_neg c, if_pos rfl]
    exact ⟨_, rfl, rfl⟩
theorem INV.keep {a1 : Int32} {μ : gM} (h : INV μ) : ∃ (v : Int32) (μ1 μ2 : gM), fX11_keep a1 μ = some (v, μ1) ∧ fX12_keep a1 μ1 = some (v, μ2) ∧ INV μ2 := h.act (tX11_keep h.1.1.1) (fun _ _ _ k => tX12_keep k) (fun ξ l t t2 => pKeepA (a1 := a1) l t t2) (fun d => d_keep (a1 := a1) d)
theorem d_back {a1 : Int32} {μ : gM} (d : DEAD μ) : ∃ v, fX11_back a1 μ = some (v, μ) ∧ fX12_back a1 μ = some (v, gUp μ 267 0 0) := by
  obtain ⟨t, t2, z, nt, ct, nc⟩ := d
  unfold fX11_back fX12_back
  rw [zLt_eq]
  rw [if_pos t, mIn32 _ (y := 0) (z := 1) rfl rfl, zBd_some]
  by_cases c : 0 ≤ a1.toInt ∧ a1.toInt ≤ 1
  · rw [if_pos c, if_neg one_n0, if_pos t2]
    exact ⟨_, rfl, rfl⟩
  · rw [if_neg c, if_pos rfl]
    exact ⟨_, rfl, rfl⟩
theorem INV.back {a1 : Int32} {μ : gM} (h : INV μ) : ∃ (v : Int32) (μ1 μ2 : gM), fX11_back a1 μ = some (v, μ1) ∧ fX12_back a1 μ1 = some (v, μ2) ∧ INV μ2 := h.act (tX11_back h.1.1.1) (fun _ _ _ k => tX12_back k) (fun ξ l t t2 => pBackA (a1 := a1) l t t2) (fun d => d_back (a1 := a1) d)
theorem INV.slot0 {a1 a2 a3 : Int32} {μ : gM} (h : INV μ) : ∃ (v v2 : Int32) (μ1 μ2 : gM), fX11_slot a1 a2 a3 μ = some (v, μ1) ∧ fX12_slot a1 a2 a3 μ1 = some (v2, μ2) ∧ INV μ2 := h.pp (tX11_slot h.1.1.1) (fun _ _ _ k => tX12_slot k) (fun k => rX11_slot k) (fun ν k => rX12_slot k)
theorem INV.slots0 {a1 a2 : Int32} {μ : gM} (h : INV μ) : ∃ (v v2 : Int32) (μ1 μ2 : gM), fX11_slots a1 a2 μ = some (v, μ1) ∧ fX12_slots a1 a2 μ1 = some (v2, μ2) ∧ INV μ2 := h.pp (tX11_slots h.1.1.1) (fun _ _ _ k => tX12_slots k) (fun k => rX11_slots k) (fun ν k => rX12_slots k)
theorem INV.host0 {a1 a2 a3 : Int32} {μ : gM} (h : INV μ) : ∃ (v v2 : Int32) (μ1 μ2 : gM), fX11_host a1 a2 a3 μ = some (v, μ1) ∧ fX12_host a1 a2 a3 μ1 = some (v2, μ2) ∧ INV μ2 := h.pp (tX11_host h.1.1.1) (fun _ _ _ k => tX12_host k) (fun k => rX11_host k) (fun ν k => rX12_host k)
theorem INV.load0 {a1 a2 a3 : Int32} {μ : gM} (h : INV μ) : ∃ (v v2 : Int32) (μ1 μ2 : gM), fX11_load a1 a2 a3 μ = some (v, μ1) ∧ fX12_load a1 a2 a3 μ1 = some (v2, μ2) ∧ INV μ2 := h.pp (tX11_load h.1.1.1) (fun _ _ _ k => tX12_load k) (fun k => rX11_load k) (fun ν k => rX12_load k)
theorem INV.ahead0 {a1 a2 : Int32} {μ : gM} (h : INV μ) : ∃ (v v2 : Int32) (μ1 μ2 : gM), fX11_ahead a1 a2 μ = some (v, μ1) ∧ fX12_ahead a1 a2 μ1 = some (v2, μ2) ∧ INV μ2 := h.pp (tX11_ahead h.1.1.1) (fun _ _ _ k => tX12_ahead k) (fun k => rX11_ahead k) (fun ν k => rX12_ahead k)
theorem INV.fails0 {a1 a2 a3 : Int32} {μ : gM} (h : INV μ) : ∃ (v v2 : Int32) (μ1 μ2 : gM), fX11_fails a1 a2 a3 μ = some (v, μ1) ∧ fX12_fails a1 a2 a3 μ1 = some (v2, μ2) ∧ INV μ2 := h.pp (tX11_fails h.1.1.1) (fun _ _ _ k => tX12_fails k) (fun k => rX11_fails k) (fun ν k => rX12_fails k)
theorem INV.worst0 {a1 a2 : Int32} {μ : gM} (h : INV μ) : ∃ (v v2 : Int32) (μ1 μ2 : gM), fX11_worst a1 a2 μ = some (v, μ1) ∧ fX12_worst a1 a2 μ1 = some (v2, μ2) ∧ INV μ2 := h.pp (tX11_worst h.1.1.1) (fun _ _ _ k => tX12_worst k) (fun k => rX11_worst k) (fun ν k => rX12_worst k)
theorem INV.settles0 {μ : gM} (h : INV μ) : ∃ (v v2 : Int32) (μ1 μ2 : gM), fX11_settles μ = some (v, μ1) ∧ fX12_settles μ1 = some (v2, μ2) ∧ INV μ2 := h.pp (tX11_settles h.1.1.1) (fun _ _ _ k => tX12_settles k) (fun k => rX11_settles k) (fun ν k => rX12_settles k)
theorem INV.least0 {a1 a2 : Int32} {μ : gM} (h : INV μ) : ∃ (v v2 : Int32) (μ1 μ2 : gM), fX11_least a1 a2 μ = some (v, μ1) ∧ fX12_least a1 a2 μ1 = some (v2, μ2) ∧ INV μ2 := h.pp (tX11_least h.1.1.1) (fun _ _ _ k => tX12_least k) (fun k => rX11_least k) (fun ν k => rX12_least k)
theorem INV.flaps0 {a1 a2 : Int32} {μ : gM} (h : INV μ) : ∃ (v v2 : Int32) (μ1 μ2 : gM), fX11_flaps a1 a2 μ = some (v, μ1) ∧ fX12_flaps a1 a2 μ1 = some (v2, μ2) ∧ INV μ2 := h.pp (tX11_flaps h.1.1.1) (fun _ _ _ k => tX12_flaps k) (fun k => rX11_flaps k) (fun ν k => rX12_flaps k)
theorem INV.needs0 {a1 a2 : Int32} {μ : gM} (h : INV μ) : ∃ (v v2 : Int32) (μ1 μ2 : gM), fX11_needs a1 a2 μ = some (v, μ1) ∧ fX12_needs a1 a2 μ1 = some (v2, μ2) ∧ INV μ2 := h.pp (tX11_needs h.1.1.1) (fun _ _ _ k => tX12_needs k) (fun k => rX11_needs k) (fun ν k => rX12_needs k)
theorem INV.letters0 {a1 : Int32} {μ : gM} (h : INV μ) : ∃ (v v2 : Int32) (μ1 μ2 : gM), fX11_letters a1 μ = some (v, μ1) ∧ fX12_letters a1 μ1 = some (v2, μ2) ∧ INV μ2 := h.pp (tX11_letters h.1.1.1) (fun _ _ _ k => tX12_letters k) (fun k => rX11_letters k) (fun ν k => rX12_letters k)
theorem INV.stands0 {a1 a2 a3 : Int32} {μ : gM} (h : INV μ) : ∃ (v v2 : Int32) (μ1 μ2 : gM), fX11_stands a1 a2 a3 μ = some (v, μ1) ∧ fX12_stands a1 a2 a3 μ1 = some (v2, μ2) ∧ INV μ2 := h.pp (tX11_stands h.1.1.1) (fun _ _ _ k => tX12_stands k) (fun k => rX11_stands k) (fun ν k => rX12_stands k)
theorem INV.returns0 {a1 a2 : Int32} {μ : gM} (h : INV μ) : ∃ (v v2 : Int32) (μ1 μ2 : gM), fX11_returns a1 a2 μ = some (v, μ1) ∧ fX12_returns a1 a2 μ1 = some (v2, μ2) ∧ INV μ2 := h.pp (tX11_returns h.1.1.1) (fun _ _ _ k => tX12_returns k) (fun k => rX11_returns k) (fun ν k => rX12_returns k)
theorem INV.under0 {a1 a2 a3 : Int32} {μ : gM} (h : INV μ) : ∃ (v v2 : Int32) (μ1 μ2 : gM), fX11_under a1 a2 a3 μ = some (v, μ1) ∧ fX12_under a1 a2 a3 μ1 = some (v2, μ2) ∧ INV μ2 := h.pp (tX11_under h.1.1.1) (fun _ _ _ k => tX12_under k) (fun k => rX11_under k) (fun ν k => rX12_under k)
