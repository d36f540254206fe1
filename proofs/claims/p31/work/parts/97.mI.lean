/-! a clock laid anew, whatever a member does; a letter counted -/
theorem pClk {s g k : Nat} {F : Prop} {c v : Int32} {X : Nat → Prop} {lo lo' : Nat → Int} {μ ξ μ' ξ' : gM} (hs : 34 ≤ s) (h : CTX s F c μ ξ) (gr : GRP s g X lo μ ξ) (m : mem (ξ 269) g k) (hx : ¬ X k) (up : bt (ξ 272 1) k = true) (b : 0 ≤ v.toInt ∧ v.toInt ≤ 200) (c1 : ∀ a, a ≠ s + 12 → a ≠ s → μ' a = μ a) (cs : ∀ i, i ≠ 6 → μ' s i = μ s i) (c2 : ∀ j, j ≠ 6 * g + k → μ' (s + 12) j = μ (s + 12) j) (e12 : μ' (s + 12) (6 * g + k) = v) (d1 : ∀ a, a ≠ 272 → a ≠ 275 → ξ' a = ξ a) (d2 : ∀ i, i ≠ 5 → i ≠ 70 + (6 * g + k) → ξ' 272 i = ξ 272 i) (h70 : ξ' 272 (70 + (6 * g + k)) = v) (sx : F → μ' s 6 = ξ' 272 5) (hlo : ∀ j, j ≠ k → lo' j ≤ lo j) (hl : lo' k ≤ v.toInt) : CTX s F c μ' ξ' ∧ GRP s g X lo' μ' ξ' ∧ DG s g μ μ' ∧ EG g ξ ξ' := by
  have hg := m.1
  have hk := m.2.1
  have dg : DG s g μ μ' := ⟨fun a h0 h1 h2 h3 h4 h5 h6 h7 => c1 a h5 h0, fun i _ h6 _ => cs i h6, fun j hj => ⟨by rw [c1 _ (by omega) (by omega)], by rw [c1 _ (by omega) (by omega)]⟩, fun j hj => ⟨c2 j (by omega), by rw [c1 _ (by omega) (by omega)]⟩, fun i hi => by rw [c1 _ (by omega) (by omega)]⟩
  have eg : EG g ξ ξ' := ⟨fun a h0 h1 h5 => d1 a h1 h5, ⟨fun i hi => by rw [d1 267 (by decide) (by decide)], fun _ => d2 9 (by omega) (by omega)⟩, fun i h0 h1 h2 h3 h4 h5 h6 h7 h8 => d2 i h1 (by omega)⟩
  obtain ⟨-, ⟨-, -, -, -, -, n5⟩, -, a1, a2, a3⟩ := id h
  obtain ⟨q1, q2, q3, q4, q5⟩ := gr.1 k m hx
  refine ⟨h.mv hs hg dg eg ?_ ⟨?_, ?_, fun f => ?_⟩, gr.one m (d1 269 (by decide) (by decide)) (d2 1 (by omega) (by omega)) (fun j hj ne => ?_) (fun j hj ne => ⟨c2 _ (by omega), by rw [c1 _ (by omega) (by omega)]⟩) (fun j hj ne => ⟨d2 _ (by omega) (by omega), d2 _ (by omega) (by omega), d2 _ (by omega) (by omega)⟩) (fun j ne w => w) hlo (fun _ => ⟨?_, ?_, ?_, fun _ => ?_, ?_⟩) ?_, dg, eg⟩
  · rw [cs 5 (by decide), d2 9 (by omega) (by omega)]; exact n5
  · rw [c1 _ (by omega) (by omega)]; exact a1
  · rw [d2 7 (by omega) (by omega)]; exact a2
  · obtain ⟨f1, f2, f3, f4⟩ := a3 f
    refine ⟨f1.cg (c1 _ (by omega) (by omega)) (c1 _ (by omega) (by omega)) (d2 7 (by omega) (by omega)) (fun i hi => d2 i (by omega) (by omega)), sx f, ?_, ?_⟩
    · rw [cs 7 (by decide), d2 6 (by omega) (by omega)]; exact f3
    · rw [c1 _ (by omega) (by omega), d1 267 (by decide) (by decide)]; exact f4
  · rw [c1 _ (by omega) (by omega)]
  · rw [e12, h70]
  · rw [c1 _ (by omega) (by omega), d2 _ (by omega) (by omega)]; exact q2
  · rw [h70]; exact b
  · rw [h70]; exact hl
  · rw [d2 1 (by omega) (by omega), c1 _ (by omega) (by omega), d2 (40 + (6 * g + k)) (by omega) (by omega)]
    rcases q5 with ⟨u, -⟩ | u
    · rw [up] at u; exact absurd u (by decide)
    · exact Or.inr u
  · rw [c1 _ (by omega) (by omega), d2 _ (by omega) (by omega)]; exact gr.2.2.2
theorem CTX.q {s : Nat} {F : Prop} {c : Int32} {μ ξ ξ' : gM} (h : CTX s F c μ ξ) (e : ∀ a, a ≠ 275 → ξ' a = ξ a) : CTX s F c μ ξ' := by
  unfold CTX NU MW AX LOG at *
  rw [e 272 (by decide), e 269 (by decide), e 267 (by decide)]
  exact ⟨h.1.fr (fun _ _ _ => rfl) (e 269 (by decide)), h.2⟩
theorem wv_n0 {s g k : Nat} {F : Prop} {c : Int32} {μ ξ : gM} (h : CTX s F c μ ξ) (m : mem (ξ 269) g k) : μ (s + 10) (6 * g + k) ≠ 0 := fun w => by
  obtain ⟨-, w2, w3, -⟩ := h.2.2.1 g k m
  have := (wv_b (g := g) (k := k) (cuts := ξ 272 2) h.1 w2.1 w2.2).1
  rw [← w3, w] at this
  exact absurd this (by decide)
/-- a holder whose clock has run out sends -/
theorem pN84 {s g k : Nat} {F : Prop} {c : Int32} {lo lo' : Nat → Int} {μ ξ : gM} (hs : 34 ≤ s) (h : CTX s F c μ ξ) (gr : GRP s g no lo μ ξ) (m : mem (ξ 269) g k) (up : bt (ξ 272 1) k = true) (h40 : ξ 272 (40 + (6 * g + k)) = 2) (h70 : ξ 272 (70 + (6 * g + k)) = 0) (hlo : ∀ j, j ≠ k → lo' j ≤ lo j) (hl : lo' k ≤ 1) : ∃ μ' ξ', (∀ K y2 y3, fX10_send_n84 s K (nI g) y2 y3 (nI k) (nI (6 * g + k)) μ = K (nI g) (y2 ||| ((1 : Int32) <<< (nI k &&& 31))) y3 (nI (k + 1)) μ') ∧ fX12_sends_n44 (nI g) (nI k) (nI (6 * g + k)) ξ = some ξ' ∧ CTX s F c μ' ξ' ∧ GRP s g no lo' μ' ξ' ∧ DG s g μ μ' ∧ EG g ξ ξ' ∧ ξ' 275 = upd (ξ 275) k (μ (s + 10) (6 * g + k)) := by
  have hg := m.1
  have hk := m.2.1
  obtain ⟨cn, cl, cg, ct, nc⟩ := h.1.nc
  obtain ⟨lk, lg⟩ := h.1.mlt nc m
  obtain ⟨g7, -, -, -, gb⟩ := h.1.gr nc lg
  obtain ⟨w1, w2, w3, w4⟩ := h.2.2.1 g k m
  have gg : gIn (nI g) 5 = true := gI hg (by decide)
  have cgg : (nI g).toNatClampNeg = g := nI_clamp (by omega)
  have gm : gIn (nI (6 * g + k)) 30 = true := gI (by omega) (by decide)
  have cm : (nI (6 * g + k)).toNatClampNeg = 6 * g + k := nI_clamp (by omega)
  have gk : gIn (nI k) 6 = true := gI hk (by decide)
  have ck : (nI k).toNatClampNeg = k := nI_clamp (by omega)
  have i28 : (28 : Int32) + nI g = nI (28 + g) := nI_add 28 _
  have g28 : gIn (nI (28 + g)) 209 = true := gI (by omega) (by decide)
  have c28 : (nI (28 + g)).toNatClampNeg = 28 + g := nI_clamp (by omega)
  have i70 : (70 : Int32) + nI (6 * g + k) = nI (70 + (6 * g + k)) := nI_add 70 _
  have g70 : gIn (nI (70 + (6 * g + k))) 490 = true := gI (by omega) (by decide)
  have c70 : (nI (70 + (6 * g + k))).toNatClampNeg = 70 + (6 * g + k) := nI_clamp (by omega)
  have e6 : gUp μ (s + 12) (6 * g + k) (μ 7 g) s 6 = μ s 6 := by rw [zUp_ne _ (by omega)]
  have x5 : gUp ξ 275 k (μ (s + 10) (6 * g + k)) 272 5 = ξ 272 5 := by rw [zUp_ne _ (by decide)]
  have ps := pClk (lo' := lo') (v := ξ 269 (28 + g)) (μ' := gUp (gUp μ (s + 12) (6 * g + k) (μ 7 g)) s 6 (μ s 6 + 1)) (ξ' := gUp (gUp (gUp ξ 275 k (μ (s + 10) (6 * g + k))) 272 5 (ξ 272 5 + 1)) 272 (70 + (6 * g + k)) (ξ 269 (28 + g))) hs h gr m id up (by have := gb.1; omega) (fun a h1 h2 => by rw [zUp_ne _ h2, zUp_ne _ h1]) (fun i hi => by rw [zUp_slot _ hi, zUp_ne _ (by omega)]) (fun j hj => by rw [zUp_ne _ (by omega), zUp_slot _ hj]) (by rw [zUp_ne _ (by omega), zUp_same, g7]) (fun a h1 h2 => by rw [zUp_ne _ h1, zUp_ne _ h1, zUp_ne _ h2]) (fun i h1 h2 => by rw [zUp_slot _ h2, zUp_slot _ h1, zUp_ne _ (by decide)]) (by rw [zUp_same]) (fun f => by rw [zUp_same, zUp_slot _ (by omega), zUp_same, (h.2.2.2.2.2 f).2.1]) hlo (by have := gb.1; omega)
  refine ⟨_, _, fun K y2 y3 => ?_, ?_, ps.1, ps.2.1, ps.2.2.1, ps.2.2.2, ?_⟩
  · unfold fX10_send_n84
    simp only [zLt, zCk, gg, cgg, gm, cm, e6, ↓reduceIte]
    rw [show nI k + (1 : Int32) = nI (k + 1) from nI_1 k]
  · unfold fX12_sends_n44
    rw [mDoes hg hk, h40, if_pos rfl, zBd_some, if_neg one_n0]
    simp only [zLt, zCk, gk, ck, i70, g70, c70, i28, g28, c28, ↓reduceIte]
    rw [h70, if_pos rfl, mWord hg hk nc.2.2.2.2.2 nc.1.2.2.2, zBd_some, ← w3, x5, zUp_ne _ (show (269 : Nat) ≠ 272 by decide), zUp_ne _ (show (269 : Nat) ≠ 275 by decide)]
  · rw [zUp_ne _ (by decide), zUp_ne _ (by decide), zUp_row]
/-- who sent: the class's bits, the reference's row -/
def SD (s g n : Nat) (S : Int32) (μ ξ : gM) : Prop := ∀ j, j < 6 → (j < n → (bt S j = true ∧ mem (ξ 269) g j ∧ bt (ξ 272 1) j = true ∧ ξ 275 j = μ (s + 10) (6 * g + j) ∧ ξ 275 j ≠ 0) ∨ (bt S j = false ∧ ξ 275 j = 0)) ∧ (n ≤ j → bt S j = false)
def lk1 (n : Nat) : Nat → Int := fun j => if j < n then 1 else 0
def lk0 (n : Nat) : Nat → Int := fun j => if j < n then 0 else 1
theorem nIle {a b : Nat} (ha : a < 1000) (hb : b < 1000) : nI a ≤ nI b ↔ a ≤ b := nI_leI (by omega) (by omega)
theorem le6 {k : Nat} (hk : k < 1000) : (6 : Int32) ≤ nI k ↔ 6 ≤ k := nIle (a := 6) (by omega) hk
theorem cSend_t {s g : Nat} {S A : Int32} {μ : gM} : ∀ (m k : Nat), k ≤ 6 → 6 < k + m → (∀ j, k ≤ j → j < 6 → bt A j = false) → fX10_send_l23 s m (nI g) S A (nI k) μ = some (S, μ) := by
  intro m
  induction m with
  | zero => intro k h1 h2; exact absurd h2 (by omega)
  | succ m ih =>
    intro k h1 h2 hA
    rw [fX10_send_l23, show (6 : Int32) = nI 6 from rfl]
    by_cases c : k = 6
    · rw [if_pos ((nIle (by omega) (by omega)).mpr (by omega))]
    · rw [if_neg (fun w => c (by have := (nIle (by omega) (by omega)).mp w; omega))]
      simp only [zLt]
      rw [if_pos ((bit0_iff (by omega)).mpr (hA k (by omega) (by omega))), show nI k + (1 : Int32) = nI (k + 1) from nI_1 k]
      exact ih (k + 1) (by omega) (by omega) (fun j h1 h2 => hA j (by omega) h2)
theorem GRP.how {s g k : Nat} {lo : Nat → Int} {μ ξ : gM} (h : GRP s g no lo μ ξ) (hg : g < 5) (hk : k < 6) : (ξ 272 (40 + (6 * g + k)) = 0 ∧ (bt (ξ 269 (48 + g)) k && bt (ξ 272 1) k) = false) ∨ (mem (ξ 269) g k ∧ bt (ξ 272 1) k = true ∧ ((bt (μ (s + 5) g) k = false ∧ ξ 272 (40 + (6 * g + k)) = 1) ∨ (bt (μ (s + 5) g) k = true ∧ ξ 272 (40 + (6 * g + k)) = 2))) := by
  by_cases m : mem (ξ 269) g k
  · obtain ⟨-, -, -, -, ⟨u, -, z, -⟩ | ⟨u, z⟩⟩ := h.1 k m id
    · exact Or.inl ⟨z, by rw [u, Bool.and_false]⟩
    · exact Or.inr ⟨m, u, z⟩
  · have : bt (ξ 269 (48 + g)) k = false := by
      cases e : bt (ξ 269 (48 + g)) k with
      | false => rfl
      | true => exact absurd ⟨hg, hk, e⟩ m
    exact Or.inl ⟨(h.2.1 k hk m).1, by rw [this, Bool.false_and]⟩
theorem pSend_l {s g cn cl cg ct : Nat} {F : Prop} {c A : Int32} (hs : 34 ≤ s) (hg : g < 5) : ∀ (m k : Nat) (S : Int32) (μ ξ : gM), CTX s F c μ ξ → NC μ ξ cn cl cg ct → GRP s g no (lk1 k) μ ξ → SD s g k S μ ξ → (∀ j, j < 6 → bt A j = (bt (ξ 269 (48 + g)) j && bt (ξ 272 1) j)) → k ≤ cn → 6 < k + m → ∃ S' μ' ξ', fX10_send_l23 s m (nI g) S A (nI k) μ = some (S', μ') ∧ fX12_groupGoes_l2 m (nI g) (nI k) ξ = fX12_groupGoes_l47 100000 (nI g) (0 : Int32) ξ' ∧ CTX s F c μ' ξ' ∧ GRP s g no (lk0 0) μ' ξ' ∧ SD s g cn S' μ' ξ' ∧ DG s g μ μ' ∧ EG g ξ ξ' := by
  intro m
  induction m with
  | zero => intro k S μ ξ _ nc _ _ _ hk h2; exact absurd h2 (by have := nc.1.1; omega)
  | succ m ih =>
    intro k S μ ξ h nc gr sd hA hk h2
    have b6 := nc.1.1
    rw [fX12_groupGoes_l2]
    unfold fX12_gates
    rw [zBd_some, nc.2.2.1]
    by_cases ck : k = cn
    · subst ck
      rw [if_pos ((nIle (by omega) (by omega)).mpr (Nat.le_refl _))]
      refine ⟨S, μ, ξ, cSend_t (m + 1) k (by omega) (by omega) (fun j h1 h2 => ?_), rfl, h, gr.low (fun j mj => ?_), sd, DG.rf _ _ _, EG.rf _ _⟩
      · rw [hA j h2]
        cases e : bt (ξ 269 (48 + g)) j with
        | false => rfl
        | true =>
          have := (h.1.mlt nc ⟨hg, h2, e⟩).1
          omega
      · have := (h.1.mlt nc mj).1
        unfold lk0 lk1
        rw [if_pos this, if_neg (by omega)]
        omega
    · have k6 : k < 6 := by omega
      rw [if_neg (fun w => ck (by have := (nIle (by omega) (by omega)).mp w; omega))]
      have gk : gIn (nI k) 6 = true := gI k6 (by decide)
      have ckk : (nI k).toNatClampNeg = k := nI_clamp (by omega)
      have i40 : (40 : Int32) + nI (6 * g + k) = nI (40 + (6 * g + k)) := nI_add 40 _
      have g40 : gIn (nI (40 + (6 * g + k))) 490 = true := gI (by omega) (by decide)
      have c40 : (nI (40 + (6 * g + k))).toNatClampNeg = 40 + (6 * g + k) := nI_clamp (by omega)
      have gm : gIn (nI (6 * g + k)) 30 = true := gI (by omega) (by decide)
      have cm : (nI (6 * g + k)).toNatClampNeg = 6 * g + k := nI_clamp (by omega)
      have i70 : (70 : Int32) + nI (6 * g + k) = nI (70 + (6 * g + k)) := nI_add 70 _
      have g70 : gIn (nI (70 + (6 * g + k))) 490 = true := gI (by omega) (by decide)
      have c70 : (nI (70 + (6 * g + k))).toNatClampNeg = 70 + (6 * g + k) := nI_clamp (by omega)
      -- the row of letters, emptied once or twice at this place
      have hq : ∀ χ : gM, (∀ a, a ≠ 275 → χ a = ξ a) → CTX s F c μ χ ∧ GRP s g no (lk1 k) μ χ ∧ EG g ξ χ := fun χ hχ => ⟨h.q hχ, gr.cg hg (fun _ _ => rfl) (hχ 269 (by decide)) (fun i _ => by rw [hχ 272 (by decide)]), ⟨fun a _ _ h5 => hχ a h5, ⟨fun i _ => by rw [hχ 267 (by decide)], fun _ => by rw [hχ 272 (by decide)]⟩, fun i _ _ _ _ _ _ _ _ _ => by rw [hχ 272 (by decide)]⟩⟩
      have n0 : ∀ a, a ≠ 275 → gUp ξ 275 k 0 a = ξ a := fun a ha => zUp_ne _ ha
      have n00 : ∀ a, a ≠ 275 → gUp (gUp ξ 275 k 0) 275 k 0 a = ξ a := fun a ha => by rw [zUp_ne _ ha, zUp_ne _ ha]
      have z00 : gUp (gUp ξ 275 k 0) 275 k 0 275 k = 0 := zUp_same _ _ _ _
      have o00 : ∀ j, j ≠ k → gUp (gUp ξ 275 k 0) 275 k 0 275 j = ξ 275 j := fun j hj => by rw [zUp_slot _ hj, zUp_slot _ hj]
      -- nothing is sent here
      have skip : ∀ χ : gM, (∀ a, a ≠ 275 → χ a = ξ a) → χ 275 k = 0 → (∀ j, j ≠ k → χ 275 j = ξ 275 j) → (mem (ξ 269) g k → bt (ξ 272 1) k = true → 1 ≤ (ξ 272 (70 + (6 * g + k))).toInt) → ∃ S' μ' ξ', fX10_send_l23 s m (nI g) S A (nI (k + 1)) μ = some (S', μ') ∧ fX12_groupGoes_l2 m (nI g) (nI (k + 1)) χ = fX12_groupGoes_l47 100000 (nI g) (0 : Int32) ξ' ∧ CTX s F c μ' ξ' ∧ GRP s g no (lk0 0) μ' ξ' ∧ SD s g cn S' μ' ξ' ∧ DG s g μ μ' ∧ EG g ξ ξ' := fun χ e1 e2 e3 e4 => by
        obtain ⟨h', gr', eg'⟩ := hq χ e1
        have gr2 : GRP s g no (lk1 (k + 1)) μ χ := ⟨fun j mj hj => by
          obtain ⟨q1, q2, q3, q4, q5⟩ := gr'.1 j mj hj
          refine ⟨q1, q2, q3, fun w => ?_, q5⟩
          by_cases ej : j = k
          · subst ej
            rw [e1 269 (by decide)] at mj
            rw [e1 272 (by decide)] at w ⊢
            have := e4 mj w
            unfold lk1
            rw [if_pos (by omega)]
            exact this
          · have := q4 w
            unfold lk1 at *
            by_cases c1 : j < k
            · rw [if_pos c1] at this; rw [if_pos (by omega)]; exact this
            · rw [if_neg (by omega)]; exact q3.1, gr'.2⟩
        have sd' : SD s g (k + 1) S μ χ := by
          intro j hj
          refine ⟨fun hn => ?_, fun hn => (sd j hj).2 (by omega)⟩
          by_cases ej : j = k
          · subst ej
            exact Or.inr ⟨(sd j hj).2 (Nat.le_refl _), e2⟩
          · rw [e1 269 (by decide), e1 272 (by decide), e3 j ej]
            exact (sd j hj).1 (by omega)
        obtain ⟨S', μ', ξ', r1, r2, r3, r4, r5, r6, r7⟩ := ih (k + 1) S μ χ h' (by unfold NC at *; rw [e1 269 (by decide)]; exact nc) gr2 sd' (by rw [e1 269 (by decide), e1 272 (by decide)]; exact hA) (by omega) (by omega)
        exact ⟨S', μ', ξ', r1, r2, r3, r4, r5, r6, eg'.tr r7⟩
      rw [fX10_send_l23, if_neg (fun w => by have := (le6 (by omega)).mp w; omega)]
      simp only [zLt, zCk, gk, ckk, mOf _ hg k6, zBd_some, i40, g40, c40, o6f hg k6, gm, cm, ↓reduceIte]
      rw [show gUp ξ 275 k 0 272 = ξ 272 from n0 272 (by decide), show nI k + (1 : Int32) = nI (k + 1) from nI_1 k]
      rcases gr.how hg k6 with ⟨w0, wA⟩ | ⟨mk, up, w12⟩
      · -- not alive
        rw [if_pos ((bit0_iff (by omega)).mpr (by rw [hA k k6]; exact wA)), w0, if_pos rfl]
        refine skip _ n0 (zUp_same _ _ _ _) (fun j hj => zUp_slot _ hj) (fun mk up => ?_)
        rw [mk.2.2, up] at wA
        exact absurd wA (by decide)
      · have nz : ¬ ξ 272 (40 + (6 * g + k)) = 0 := by
          rcases w12 with ⟨-, w⟩ | ⟨-, w⟩ <;> rw [w] <;> decide
        obtain ⟨q1, q2, q3, q4, -⟩ := gr.1 k mk id
        rw [if_neg (fun w => by have := (bit0_iff (by omega)).mp w; rw [hA k k6, mk.2.2, up] at this; exact absurd this (by decide)), if_neg nz]
        unfold fX12_sends
        simp only [zLt, zCk, gk, ckk, mOf _ hg k6, zBd_some, i40, g40, c40, i70, g70, c70, ↓reduceIte]
        rw [show gUp (gUp ξ 275 k 0) 275 k 0 272 = ξ 272 from n00 272 (by decide), q1]
        have z0 : (0 : Int32).toInt = 0 := rfl
        by_cases cc : ξ 272 (70 + (6 * g + k)) ≤ 0
        · -- it sends
          have cz : ξ 272 (70 + (6 * g + k)) = 0 := Int32.toInt_inj.mp (by have := Int32.le_iff_toInt_le.mp cc; omega)
          obtain ⟨h', gr', eg'⟩ := hq _ n00
          -- behind n84
          have fin : ∀ (μ1 ξ1 : gM), CTX s F c μ1 ξ1 → GRP s g no (lk1 k) μ1 ξ1 → DG s g μ μ1 → EG g ξ ξ1 → (∀ j, j ≠ k → ξ1 275 j = ξ 275 j) → ξ1 272 (40 + (6 * g + k)) = 2 → ξ1 272 (70 + (6 * g + k)) = 0 → ∃ S' μ' ξ', fX10_send_n84 s (fX10_send_l23 s m) (nI g) S A (nI k) (nI (6 * g + k)) μ1 = some (S', μ') ∧ zBd (fX12_sends_n44 (nI g) (nI k) (nI (6 * g + k)) ξ1) (fun μ42 => fX12_groupGoes_l2 m (nI g) (nI (k + 1)) μ42) = fX12_groupGoes_l47 100000 (nI g) (0 : Int32) ξ' ∧ CTX s F c μ' ξ' ∧ GRP s g no (lk0 0) μ' ξ' ∧ SD s g cn S' μ' ξ' ∧ DG s g μ μ' ∧ EG g ξ ξ' := fun μ1 ξ1 h1 g1 d1 e1 s5 t40 t70 => by
            have m1 : mem (ξ1 269) g k := by rw [e1.k9]; exact mk
            obtain ⟨μ2, ξ2, x1, x2, x3, x4, x5, x6, x7⟩ := pN84 (lo' := lk1 (k + 1)) hs h1 g1 m1 (by rw [e1.k1]; exact up) t40 t70 (fun j hj => by unfold lk1; split <;> split <;> omega) (by unfold lk1; rw [if_pos (by omega)]; exact Int.le_refl _)
            rw [x1, x2, zBd_some]
            have e12 := e1.tr x6
            have d12 := d1.tr x5
            have nz : μ1 (s + 10) (6 * g + k) ≠ 0 := wv_n0 h1 m1
            have sd' : SD s g (k + 1) (S ||| ((1 : Int32) <<< (nI k &&& 31))) μ2 ξ2 := by
              intro j hj
              refine ⟨fun hn => ?_, fun hn => ?_⟩
              · by_cases ej : j = k
                · subst ej
                  refine Or.inl ⟨(btOr (by omega)).1, by rw [e12.k9]; exact mk, by rw [e12.k1]; exact up, ?_, ?_⟩
                  · rw [x7, pk_us, x5.k10]
                  · rw [x7, pk_us]; exact nz
                · rw [(btOr (by omega)).2 j (by omega) ej, x7, pk_un ej, s5 j ej, e12.k9, e12.k1, d12.k10]
                  exact (sd j hj).1 (by omega)
              · rw [(btOr (by omega)).2 j (by omega) (by omega)]
                exact (sd j hj).2 (by omega)
            have nc2 : NC μ2 ξ2 cn cl cg ct := by
              unfold NC at *
              rw [e12.k9, d12.1 5 (by omega) (by omega) (by omega) (by omega) (by omega) (by omega) (by omega) (by omega), d12.1 4 (by omega) (by omega) (by omega) (by omega) (by omega) (by omega) (by omega) (by omega)]
              exact nc
            obtain ⟨S', μ', ξ', r1, r2, r3, r4, r5, r6, r7⟩ := ih (k + 1) (S ||| ((1 : Int32) <<< (nI k &&& 31))) μ2 ξ2 x3 nc2 x4 sd' (by rw [e12.k9, e12.k1]; exact hA) (by omega) (by omega)
            exact ⟨S', μ', ξ', r1, r2, r3, r4, r5, d12.tr r6, e12.tr r7⟩
          rw [if_pos cc, cHeld hg k6, zBd_some]
          rcases w12 with ⟨nh, w1⟩ | ⟨hh, w2⟩
          · rw [nh, if_neg (show ¬ (false = true) by decide), if_pos rfl, w1, if_pos rfl, if_neg (fun w => by have := Int32.lt_iff_toInt_lt.mp w; have := Int32.le_iff_toInt_le.mp cc; omega)]
            obtain ⟨μ1, ξ1, x1, x2, x3, x4, x5, x6⟩ := pHold hs h' gr' (by rw [n00 269 (by decide)]; exact mk) (by rw [n00 272 (by decide)]; exact up) (by unfold lk1; rw [if_neg (by omega)]; exact Int.le_refl _)
            rw [x1, x2, zBd_some, zBd_some]
            exact fin μ1 ξ1 x5 (x6.all (fun j _ w => w.1) (fun _ => Int.le_refl _)) (x3.dg k6) (eg'.tr (x4.eg k6)) (fun j hj => by rw [x4.1 275 (by decide) (by decide)]; exact o00 j hj) x4.2.2.1 x4.2.2.2.1
          · rw [hh, if_pos rfl, if_neg one_n0, w2, if_neg (show ¬ (2 : Int32) = 1 by decide)]
            exact fin μ _ h' gr' (DG.rf _ _ _) eg' o00 (by rw [n00 272 (by decide)]; exact w2) (by rw [n00 272 (by decide)]; exact cz)
        · have cp : 0 < (ξ 272 (70 + (6 * g + k))).toInt := by
            have : ¬ (ξ 272 (70 + (6 * g + k))).toInt ≤ (0 : Int32).toInt := fun w => cc (Int32.le_iff_toInt_le.mpr w)
            omega
          have n44 : fX12_sends_n44 (nI g) (nI k) (nI (6 * g + k)) (gUp (gUp ξ 275 k 0) 275 k 0) = some (gUp (gUp ξ 275 k 0) 275 k 0) := by
            unfold fX12_sends_n44
            rw [mDoes hg k6, show gUp (gUp ξ 275 k 0) 275 k 0 272 = ξ 272 from n00 272 (by decide), zBd_some]
            rcases w12 with ⟨-, w1⟩ | ⟨-, w2⟩
            · rw [w1, if_neg (show ¬ (1 : Int32) = 2 by decide), if_pos rfl]
            · rw [w2, if_pos rfl, if_neg one_n0]
              simp only [zCk, i70, g70, c70, ↓reduceIte]
              rw [if_neg (fun w => by rw [w] at cp; exact absurd cp (by decide))]
          rw [if_neg cc]
          have e44 : (if ξ 272 (40 + (6 * g + k)) = (1 : Int32) then (if 0 < ξ 272 (70 + (6 * g + k)) then fX12_sends_n44 (nI g) (nI k) (nI (6 * g + k)) (gUp (gUp ξ 275 k 0) 275 k 0) else zBd (fX12_toHold (nI g) (nI k) (gUp (gUp ξ 275 k 0) 275 k 0)) (fun μ17 => fX12_sends_n44 (nI g) (nI k) (nI (6 * g + k)) μ17)) else fX12_sends_n44 (nI g) (nI k) (nI (6 * g + k)) (gUp (gUp ξ 275 k 0) 275 k 0)) = some (gUp (gUp ξ 275 k 0) 275 k 0) := by
            rw [if_pos (Int32.lt_iff_toInt_lt.mpr (by omega)), n44]
            split <;> rfl
          rw [e44, zBd_some]
          exact skip _ n00 z00 o00 (fun _ _ => by omega)
