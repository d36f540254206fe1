/-! a member that waits: its clock and its wish laid anew -/
def pvm (ξ : gM) (g k : Nat) : Int32 := pv (ξ 269) g (wv (ξ 269) (ξ 272 2) (ξ 272 (10 + (6 * g + k))) g k)
theorem pSet {s g k : Nat} {F : Prop} {c : Int32} {X : Nat → Prop} {lo lo' : Nat → Int} {μ ξ μ' ξ' : gM} (hs : 34 ≤ s) (h : CTX s F c μ ξ) (gr : GRP s g X lo μ ξ) (m : mem (ξ 269) g k) (up : bt (ξ 272 1) k = true) (nh : bt (μ (s + 5) g) k = false) (c1 : ∀ a, a ≠ s + 12 → a ≠ s + 13 → μ' a = μ a) (c2 : ∀ j, j ≠ 6 * g + k → μ' (s + 12) j = μ (s + 12) j ∧ μ' (s + 13) j = μ (s + 13) j) (d1 : ∀ a, a ≠ 272 → ξ' a = ξ a) (d2 : ∀ i, i ≠ 40 + (6 * g + k) → i ≠ 70 + (6 * g + k) → i ≠ 100 + (6 * g + k) → ξ' 272 i = ξ 272 i) (h40 : ξ' 272 (40 + (6 * g + k)) = 1) (e12 : μ' (s + 12) (6 * g + k) = ξ' 272 (70 + (6 * g + k))) (e13 : μ' (s + 13) (6 * g + k) = ξ' 272 (100 + (6 * g + k)) - 1) (b : 0 ≤ (ξ' 272 (70 + (6 * g + k))).toInt ∧ (ξ' 272 (70 + (6 * g + k))).toInt ≤ 200) (hlo : ∀ j, j ≠ k → lo' j ≤ lo j) (hl : lo' k ≤ (ξ' 272 (70 + (6 * g + k))).toInt) : CTX s F c μ' ξ' ∧ GRP s g (fun j => X j ∧ j ≠ k) lo' μ' ξ' ∧ DG s g μ μ' ∧ EG g ξ ξ' := by
  have hg := m.1
  have hk := m.2.1
  have dg : DG s g μ μ' := ⟨fun a h0 h1 h2 h3 h4 h5 h6 h7 => c1 a h5 h6, fun i _ _ _ => by rw [c1 s (by omega) (by omega)], fun j hj => ⟨by rw [c1 _ (by omega) (by omega)], by rw [c1 _ (by omega) (by omega)]⟩, fun j hj => c2 j (by omega), fun i hi => by rw [c1 _ (by omega) (by omega)]⟩
  have eg : EG g ξ ξ' := ⟨fun a h0 h1 _ => d1 a h1, ⟨fun i hi => by rw [d1 267 (by decide)], fun _ => d2 9 (by omega) (by omega) (by omega)⟩, fun i h0 h1 h2 h3 h4 h5 h6 h7 h8 => d2 i (by omega) (by omega) (by omega)⟩
  obtain ⟨-, ⟨-, -, -, -, -, n5⟩, -, a1, a2, a3⟩ := id h
  refine ⟨h.mv hs hg dg eg ?_ ⟨?_, ?_, fun f => ?_⟩, gr.one m (d1 269 (by decide)) (d2 1 (by omega) (by omega) (by omega)) (fun j hj ne => ?_) (fun j hj ne => c2 _ (by omega)) (fun j hj ne => ⟨d2 _ (by omega) (by omega) (by omega), d2 _ (by omega) (by omega) (by omega), d2 _ (by omega) (by omega) (by omega)⟩) (fun j ne w x => w ⟨x, ne⟩) hlo (fun _ => ⟨e12, e13, b, fun _ => hl, Or.inr ⟨?_, Or.inl ⟨?_, h40⟩⟩⟩) ?_, dg, eg⟩
  · rw [c1 s (by omega) (by omega), d2 9 (by omega) (by omega) (by omega)]; exact n5
  · rw [c1 (s + 3) (by omega) (by omega)]; exact a1
  · rw [d2 7 (by omega) (by omega) (by omega)]; exact a2
  · obtain ⟨f1, f2, f3, f4⟩ := a3 f
    refine ⟨f1.cg (c1 _ (by omega) (by omega)) (c1 _ (by omega) (by omega)) (d2 7 (by omega) (by omega) (by omega)) (fun i hi => d2 i (by omega) (by omega) (by omega)), ?_, ?_, ?_⟩
    · rw [c1 s (by omega) (by omega), d2 5 (by omega) (by omega) (by omega)]; exact f2
    · rw [c1 s (by omega) (by omega), d2 6 (by omega) (by omega) (by omega)]; exact f3
    · rw [c1 _ (by omega) (by omega), d1 267 (by decide)]; exact f4
  · rw [c1 _ (by omega) (by omega)]
  · rw [d2 1 (by omega) (by omega) (by omega)]; exact up
  · rw [c1 _ (by omega) (by omega)]; exact nh
  · rw [c1 _ (by omega) (by omega), d2 _ (by omega) (by omega) (by omega)]; exact gr.2.2.2
/-- the class's patience is the reference's -/
theorem CTX.pat {s g k : Nat} {F : Prop} {c : Int32} {μ ξ : gM} (h : CTX s F c μ ξ) (m : mem (ξ 269) g k) : (3 : Int32) * μ 7 g + μ (s + 11) (6 * g + k) = pvm ξ g k ∧ 3 ≤ (pvm ξ g k).toInt ∧ (pvm ξ g k).toInt ≤ 160 := by
  obtain ⟨hn, -, hw, -⟩ := h
  obtain ⟨cn, cl, cg, ct, nc⟩ := hn.nc
  obtain ⟨lk, lg⟩ := hn.mlt nc m
  obtain ⟨g7, -, -, -, gb⟩ := hn.gr nc lg
  obtain ⟨w1, w2, w3, w4⟩ := hw g k m
  unfold pvm
  refine ⟨by rw [g7, w4, w3]; rfl, ?_⟩
  exact (pv_b gb.1 (wv_b hn w2.1 w2.2)).1
def AQ (s g k : Nat) (v w : Int32) (μ μ' : gM) : Prop := (∀ a, a ≠ s + 12 → a ≠ s + 13 → μ' a = μ a) ∧ μ' (s + 12) = upd (μ (s + 12)) (6 * g + k) v ∧ μ' (s + 13) = upd (μ (s + 13)) (6 * g + k) w
theorem cPat {g : Nat} {x : Int32} {μ : gM} (hg : g < 5) : fX1_patience 4 (nI g) x μ = some ((3 : Int32) * μ 7 g + x) := by
  unfold fX1_patience
  simp only [zCk, gI (N := 5) hg (by decide), nI_clamp (show g < 2 ^ 31 by omega), ↓reduceIte]
theorem cAwait {s g k : Nat} {μ : gM} (hg : g < 5) (hk : k < 6) : ∃ μ', fX10_await s (nI g) (nI k) μ = some μ' ∧ AQ s g k ((3 : Int32) * μ 7 g + μ (s + 11) (6 * g + k)) (-1) μ μ' := by
  unfold fX10_await
  have gm : gIn (nI (6 * g + k)) 30 = true := gI (by omega) (by decide)
  have cm : (nI (6 * g + k)).toNatClampNeg = 6 * g + k := nI_clamp (by omega)
  simp only [zLt, zCk, o6f hg hk, gm, cm, cPat hg, zBd_some, ↓reduceIte]
  refine ⟨_, rfl, fun a h1 h2 => by rw [zUp_ne _ h2, zUp_ne _ h1], ?_, ?_⟩
  · rw [zUp_ne _ (by omega), zUp_row]
  · rw [zUp_row, zUp_ne _ (by omega)]
theorem AQ.f {s g k : Nat} {v w : Int32} {μ μ' : gM} (h : AQ s g k v w μ μ') : (∀ j, j ≠ 6 * g + k → μ' (s + 12) j = μ (s + 12) j ∧ μ' (s + 13) j = μ (s + 13) j) ∧ μ' (s + 12) (6 * g + k) = v ∧ μ' (s + 13) (6 * g + k) = w := ⟨fun j hj => ⟨by rw [h.2.1, pk_un hj], by rw [h.2.2, pk_un hj]⟩, by rw [h.2.1, pk_us], by rw [h.2.2, pk_us]⟩
def WB3 (g k : Nat) (h v w : Int32) (ξ ξ' : gM) : Prop := (∀ a, a ≠ 272 → ξ' a = ξ a) ∧ (∀ i, i ≠ 40 + (6 * g + k) → i ≠ 70 + (6 * g + k) → i ≠ 100 + (6 * g + k) → ξ' 272 i = ξ 272 i) ∧ ξ' 272 (40 + (6 * g + k)) = h ∧ ξ' 272 (70 + (6 * g + k)) = v ∧ ξ' 272 (100 + (6 * g + k)) = w
theorem mWait {g k c : Nat} {ξ : gM} (hg : g < 5) (hk : k < 6) (h3 : ξ 269 3 = nI c) (hc : c ≤ 24) : ∃ ξ', fX12_toWait (nI g) (nI k) ξ = some ξ' ∧ WB3 g k 1 (pvm ξ g k) 0 ξ ξ' := by
  unfold fX12_toWait
  have i40 : (40 : Int32) + nI (6 * g + k) = nI (40 + (6 * g + k)) := nI_add 40 _
  have i70 : (70 : Int32) + nI (6 * g + k) = nI (70 + (6 * g + k)) := nI_add 70 _
  have i100 : (100 : Int32) + nI (6 * g + k) = nI (100 + (6 * g + k)) := nI_add 100 _
  have g40 : gIn (nI (40 + (6 * g + k))) 490 = true := gI (by omega) (by decide)
  have g70 : gIn (nI (70 + (6 * g + k))) 490 = true := gI (by omega) (by decide)
  have g100 : gIn (nI (100 + (6 * g + k))) 490 = true := gI (by omega) (by decide)
  have c40 : (nI (40 + (6 * g + k))).toNatClampNeg = 40 + (6 * g + k) := nI_clamp (by omega)
  have c70 : (nI (70 + (6 * g + k))).toNatClampNeg = 70 + (6 * g + k) := nI_clamp (by omega)
  have c100 : (nI (100 + (6 * g + k))).toNatClampNeg = 100 + (6 * g + k) := nI_clamp (by omega)
  simp only [zLt, zCk, mOf _ hg hk, zBd_some, i40, i70, i100, g40, g70, g100, c40, c70, c100, ↓reduceIte]
  have e9 : gUp ξ 272 (40 + (6 * g + k)) 1 269 = ξ 269 := zUp_ne _ (by decide)
  rw [mPat hg hk (by rw [e9]; exact h3) hc, zBd_some, e9, zUp_slot _ (show 2 ≠ 40 + (6 * g + k) by omega), zUp_slot _ (show 10 + (6 * g + k) ≠ 40 + (6 * g + k) by omega)]
  refine ⟨_, rfl, fun a ha => by rw [zUp_ne _ ha, zUp_ne _ ha, zUp_ne _ ha], fun i h1 h2 h3 => by rw [zUp_slot _ h3, zUp_slot _ h2, zUp_slot _ h1], ?_, ?_, ?_⟩
  · rw [zUp_slot _ (by omega), zUp_slot _ (by omega), zUp_same]
  · rw [zUp_slot _ (by omega), zUp_same]; rfl
  · rw [zUp_same]
/-- a member begins to wait, in both -/
theorem pWait {s g k : Nat} {F : Prop} {c : Int32} {X : Nat → Prop} {lo lo' : Nat → Int} {μ ξ : gM} (hs : 34 ≤ s) (h : CTX s F c μ ξ) (gr : GRP s g X lo μ ξ) (m : mem (ξ 269) g k) (up : bt (ξ 272 1) k = true) (nh : bt (μ (s + 5) g) k = false) (hlo : ∀ j, j ≠ k → lo' j ≤ lo j) (hl : lo' k ≤ 3) : ∃ μ' ξ', fX10_await s (nI g) (nI k) μ = some μ' ∧ fX12_toWait (nI g) (nI k) ξ = some ξ' ∧ AQ s g k (pvm ξ g k) (-1) μ μ' ∧ WB3 g k 1 (pvm ξ g k) 0 ξ ξ' ∧ CTX s F c μ' ξ' ∧ GRP s g (fun j => X j ∧ j ≠ k) lo' μ' ξ' ∧ DG s g μ μ' ∧ EG g ξ ξ' := by
  have hg := m.1
  have hk := m.2.1
  obtain ⟨cn, cl, cg, ct, nc⟩ := h.1.nc
  obtain ⟨p1, p2, p3⟩ := h.pat m
  obtain ⟨μ', e1, q⟩ := cAwait (s := s) (μ := μ) hg hk
  obtain ⟨ξ', e2, r⟩ := mWait hg hk nc.2.2.2.2.2 nc.1.2.2.2
  rw [p1] at q
  obtain ⟨q1, q2, q3⟩ := q.f
  obtain ⟨r1, r2, r3, r4, r5⟩ := id r
  exact ⟨μ', ξ', e1, e2, q, r, pSet hs h gr m up nh q.1 q1 r1 r2 r3 (q2.trans r4.symm) (by rw [q3, r5]; rfl) (by rw [r4]; omega) hlo (by rw [r4]; omega)⟩
/-! giving up -/
def GQ (s g k : Nat) (μ μ' : gM) : Prop := (∀ a, a ≠ s + 3 → a ≠ s + 4 → a ≠ s + 5 → a ≠ s + 14 → μ' a = μ a) ∧ μ' (s + 5) = upd (μ (s + 5)) g (μ (s + 5) g &&& (((1 : Int32) <<< (nI k &&& 31)) ^^^ (-1 : Int32))) ∧ μ' (s + 14) = upd (μ (s + 14)) 4 (μ (s + 14) 4 + 1) ∧ LA (s + 3) (μ s 0) (nI g) (nI k) 1 μ μ'
theorem cGive {s g k : Nat} {μ : gM} (hg : g < 5) (b : (0 ≤ (μ (s + 3) 0).toInt ∧ (μ (s + 3) 0).toInt ≤ 60) ∧ 0 ≤ (μ (s + 3) 1).toInt ∧ (μ (s + 3) 1).toInt ≤ 59) : ∃ μ', fX10_giveUp s (nI g) (nI k) μ = some μ' ∧ GQ s g k μ μ' := by
  unfold fX10_giveUp
  have gg : gIn (nI g) 5 = true := gI hg (by decide)
  have cg : (nI g).toNatClampNeg = g := nI_clamp (by omega)
  simp only [zLt, zCk, gg, cg, ↓reduceIte]
  generalize eν : gUp (gUp μ (s + 5) g (μ (s + 5) g &&& (((1 : Int32) <<< (nI k &&& 31)) ^^^ (-1 : Int32)))) (s + 14) 4 _ = ν
  have w : ∀ a, a ≠ s + 5 → a ≠ s + 14 → ν a = μ a := fun a h1 h2 => by rw [← eν, zUp_ne _ h2, zUp_ne _ h1]
  obtain ⟨μ', e, f, la⟩ := cAdd (p := s + 3) (t := ν s 0) (g := nI g) (k := nI k) (w := 1) (μ := ν) (by rw [w (s + 3) (by omega) (by omega)]; exact b.1) (by rw [w (s + 3) (by omega) (by omega)]; exact b.2)
  rw [e, zBd_some]
  rw [w s (by omega) (by omega)] at la
  refine ⟨μ', rfl, fun a h1 h2 h3 h4 => by rw [f a h1 (by omega), w a h3 h4], ?_, ?_, la.cg (w _ (by omega) (by omega)) (w _ (by omega) (by omega))⟩
  · rw [f _ (by omega) (by omega), ← eν, zUp_ne _ (by omega), zUp_row]
  · rw [f _ (by omega) (by omega), ← eν, zUp_row, zUp_ne _ (by omega)]
/-- a holder gives up, in both -/
theorem pGive {s g k : Nat} {F : Prop} {c : Int32} {X : Nat → Prop} {lo lo' : Nat → Int} {μ ξ : gM} (hs : 34 ≤ s) (h : CTX s F c μ ξ) (gr : GRP s g X lo μ ξ) (m : mem (ξ 269) g k) (up : bt (ξ 272 1) k = true) (hlo : ∀ j, j ≠ k → lo' j ≤ lo j) (hl : lo' k ≤ 3) : ∃ μ1 μ' ξ1 ξ', fX10_giveUp s (nI g) (nI k) μ = some μ1 ∧ fX10_await s (nI g) (nI k) μ1 = some μ' ∧ fX12_toWait (nI g) (nI k) (gUp ξ 267 22 (ξ 267 22 + 1)) = some ξ1 ∧ fX12_logs (nI g) (nI k) 1 ξ1 = some ξ' ∧ CTX s F c μ' ξ' ∧ GRP s g (fun j => X j ∧ j ≠ k) lo' μ' ξ' ∧ DG s g μ μ' ∧ EG g ξ ξ' ∧ ξ' 275 = ξ 275 := by
  have hg := m.1
  have hk := m.2.1
  obtain ⟨cn, cl, cg, ct, nc⟩ := h.1.nc
  obtain ⟨p1, p2, p3⟩ := h.pat m
  obtain ⟨-, ⟨n0, -, -, -, -, n5⟩, -, a1, a2, a3⟩ := id h
  obtain ⟨μ1, e1, q0, q5, q14, la⟩ := cGive (s := s) (k := k) hg a1
  obtain ⟨μ', e2, r⟩ := cAwait (s := s) (μ := μ1) hg hk
  rw [q0 7 (by omega) (by omega) (by omega) (by omega), q0 (s + 11) (by omega) (by omega) (by omega) (by omega), p1] at r
  obtain ⟨r1, r2, r3⟩ := r.f
  have x2 : gUp ξ 267 22 (ξ 267 22 + 1) 272 = ξ 272 := zUp_ne _ (by decide)
  have x9 : gUp ξ 267 22 (ξ 267 22 + 1) 269 = ξ 269 := zUp_ne _ (by decide)
  obtain ⟨ξ1, e3, t0, ti, t40, t70, t100⟩ := mWait (g := g) (k := k) (ξ := gUp ξ 267 22 (ξ 267 22 + 1)) hg hk (by rw [x9]; exact nc.2.2.2.2.2) nc.1.2.2.2
  rw [x2] at ti
  have pe : pvm (gUp ξ 267 22 (ξ 267 22 + 1)) g k = pvm ξ g k := by unfold pvm; rw [x2, x9]
  rw [pe] at t70
  obtain ⟨ξ', e4, f, fi, lb⟩ := mLogs (g := nI g) (k := nI k) (w := 1) (ξ := ξ1) (by rw [ti 7 (by omega) (by omega) (by omega)]; exact a2)
  have o0 : ∀ a, a ≠ s + 3 → a ≠ s + 4 → a ≠ s + 5 → a ≠ s + 12 → a ≠ s + 13 → a ≠ s + 14 → μ' a = μ a := fun a h1 h2 h3 h4 h5 h6 => by rw [r.1 a h4 h5, q0 a h1 h2 h3 h6]
  have o5 : μ' (s + 5) = upd (μ (s + 5)) g (μ (s + 5) g &&& (((1 : Int32) <<< (nI k &&& 31)) ^^^ (-1 : Int32))) := by rw [r.1 _ (by omega) (by omega), q5]
  have o14 : μ' (s + 14) = upd (μ (s + 14)) 4 (μ (s + 14) 4 + 1) := by rw [r.1 _ (by omega) (by omega), q14]
  have oc : ∀ j, j ≠ 6 * g + k → μ' (s + 12) j = μ (s + 12) j ∧ μ' (s + 13) j = μ (s + 13) j := fun j hj => by
    obtain ⟨u1, u2⟩ := r1 j hj
    rw [u1, u2, q0 _ (by omega) (by omega) (by omega) (by omega), q0 _ (by omega) (by omega) (by omega) (by omega)]
    exact ⟨rfl, rfl⟩
  have oi : ∀ i, i < 245 → i ≠ 7 → i ≠ 40 + (6 * g + k) → i ≠ 70 + (6 * g + k) → i ≠ 100 + (6 * g + k) → ξ' 272 i = ξ 272 i := fun i h1 h2 h3 h4 h5 => by rw [fi i h1 h2, ti i h3 h4 h5]
  have oa : ∀ a, a ≠ 267 → a ≠ 272 → ξ' a = ξ a := fun a h1 h2 => by rw [f a h2, t0 a h2, zUp_ne _ h1]
  have o7 : ξ' 267 = upd (ξ 267) 22 (ξ 267 22 + 1) := by rw [f 267 (by decide), t0 267 (by decide), zUp_row]
  have la' : LA (s + 3) (μ s 0) (nI g) (nI k) 1 μ μ' := la.cg' (r.1 _ (by omega) (by omega)) (r.1 _ (by omega) (by omega))
  have lb' : LB (nI g) (nI k) 1 ξ ξ' := lb.cg (ti 0 (by omega) (by omega) (by omega)) (ti 7 (by omega) (by omega) (by omega)) (fun i hi => ti i (by omega) (by omega) (by omega))
  have dg : DG s g μ μ' := ⟨fun a h0 h1 h2 h3 h4 h5 h6 h7 => o0 a h1 h2 h3 h5 h6 h7, fun i _ _ _ => by rw [o0 s (by omega) (by omega) (by omega) (by omega) (by omega) (by omega)], fun j hj => ⟨by rw [o5, pk_un hj], by rw [o0 _ (by omega) (by omega) (by omega) (by omega) (by omega) (by omega)]⟩, fun j hj => oc j (by omega), fun i hi => by rw [o14, pk_un hi]⟩
  have eg : EG g ξ ξ' := ⟨fun a h0 h1 _ => oa a h0 h1, ⟨fun i hi => by rw [o7, pk_un hi], fun _ => oi 9 (by omega) (by omega) (by omega) (by omega) (by omega)⟩, fun i h0 h1 h2 h3 h4 h5 h6 h7 h8 => oi i h0 h3 (by omega) (by omega) (by omega)⟩
  refine ⟨μ1, μ', ξ1, ξ', e1, e2, e3, e4, h.mv hs hg dg eg ?_ ⟨la'.b, lb'.b, fun w => ?_⟩, gr.one m (oa 269 (by decide) (by decide)) (oi 1 (by omega) (by omega) (by omega) (by omega) (by omega)) (fun j hj ne => ?_) (fun j hj ne => oc _ (by omega)) (fun j hj ne => ⟨oi _ (by omega) (by omega) (by omega) (by omega) (by omega), oi _ (by omega) (by omega) (by omega) (by omega) (by omega), oi _ (by omega) (by omega) (by omega) (by omega) (by omega)⟩) (fun j ne w x => w ⟨x, ne⟩) hlo (fun _ => ⟨?_, ?_, ?_, fun _ => ?_, Or.inr ⟨?_, Or.inl ⟨?_, ?_⟩⟩⟩) ?_, dg, eg, oa 275 (by decide) (by decide)⟩
  · rw [o0 s (by omega) (by omega) (by omega) (by omega) (by omega) (by omega), oi 9 (by omega) (by omega) (by omega) (by omega) (by omega)]; exact n5
  · obtain ⟨f1, f2, f3, f4⟩ := a3 w
    refine ⟨f1.add n0 la' lb', ?_, ?_, ?_⟩
    · rw [o0 s (by omega) (by omega) (by omega) (by omega) (by omega) (by omega), oi 5 (by omega) (by omega) (by omega) (by omega) (by omega)]; exact f2
    · rw [o0 s (by omega) (by omega) (by omega) (by omega) (by omega) (by omega), oi 6 (by omega) (by omega) (by omega) (by omega) (by omega)]; exact f3
    · rw [o14, pk_us, o7, pk_us, f4, Int32.add_assoc, Int32.add_assoc, Int32.add_comm c 1]
  · rw [o5, pk_us, (btAnd (by omega)).2 j hj ne]
  · rw [r2, fi _ (by omega) (by omega), t70]
  · rw [r3, fi _ (by omega) (by omega), t100]; rfl
  · rw [fi _ (by omega) (by omega), t70]; omega
  · rw [fi _ (by omega) (by omega), t70]; omega
  · rw [oi 1 (by omega) (by omega) (by omega) (by omega) (by omega)]; exact up
  · rw [o5, pk_us, (btAnd (by omega)).1]
  · rw [fi _ (by omega) (by omega), t40]
  · rw [o0 _ (by omega) (by omega) (by omega) (by omega) (by omega) (by omega), oi _ (by omega) (by omega) (by omega) (by omega) (by omega)]; exact gr.2.2.2
