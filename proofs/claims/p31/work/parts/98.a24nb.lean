/-! the reference alone: who sends, clocks -/
def smN (e : Nat → Nat) : Nat → Nat
  | 0 => 0
  | n + 1 => smN e n + e n
def nU {α : Type} (e : Nat → α) (k : Nat) (v : α) : Nat → α := fun j => if j = k then v else e j
theorem nU_s {α : Type} (e : Nat → α) (k : Nat) (v : α) : nU e k v k = v := if_pos rfl
theorem nU_n {α : Type} (e : Nat → α) {k j : Nat} (v : α) (h : j ≠ k) : nU e k v j = e j := if_neg h
theorem smU {e : Nat → Nat} {k d : Nat} : ∀ n, smN (nU e k (e k + d)) n = smN e n + (if k < n then d else 0) := by
  intro n
  induction n with
  | zero => rfl
  | succ n ih =>
    show smN (nU e k (e k + d)) n + nU e k (e k + d) n = smN e n + e n + _
    rw [ih]
    by_cases c : n = k
    · subst c
      rw [nU_s, if_neg (by omega), if_pos (by omega)]
      omega
    · rw [nU_n _ _ c]
      by_cases c2 : k < n
      · rw [if_pos c2, if_pos (by omega)]; omega
      · rw [if_neg c2, if_neg (by omega)]; omega
theorem sm0 : ∀ n, smN (fun _ => 0) n = 0 := by
  intro n
  induction n with
  | zero => rfl
  | succ n ih => show smN (fun _ => 0) n + 0 = 0; rw [ih]
/-- what a group's turn rests on -/
def nP (g cn ct : Nat) (ξ : gM) : Prop := (g < 5 ∧ cn ≤ 6 ∧ ct ≤ 24) ∧ ξ 269 0 = nI cn ∧ ξ 269 3 = nI ct ∧ ∀ k, k < 6 → ξ 272 (40 + (6 * g + k)) = 0 ∨ (k < cn ∧ 3 ≤ (pvm ξ g k).toInt ∧ wv (ξ 269) (ξ 272 2) (ξ 272 (10 + (6 * g + k))) g k ≠ 0 ∧ (ξ 272 (40 + (6 * g + k)) = 1 ∨ ξ 272 (40 + (6 * g + k)) = 2))
theorem EG.k2 {g : Nat} {ξ ξ' : gM} (e : EG g ξ ξ') : ξ' 272 2 = ξ 272 2 := e.2.2 2 (by omega) (by omega) (by omega) (by omega) (by omega) (by omega) (by omega) (by omega) (by omega)
theorem EG.k4 {g : Nat} {ξ ξ' : gM} (hg : g < 5) (e : EG g ξ ξ') : ξ' 272 4 = ξ 272 4 := e.2.2 4 (by omega) (by omega) (by omega) (by omega) (by omega) (by omega) (by omega) (by omega) (by omega)
theorem EG.kt {g k : Nat} {ξ ξ' : gM} (hg : g < 5) (hk : k < 6) (e : EG g ξ ξ') : ξ' 272 (10 + (6 * g + k)) = ξ 272 (10 + (6 * g + k)) := e.2.2 _ (by omega) (by omega) (by omega) (by omega) (by omega) (by omega) (by omega) (by omega) (by omega)
theorem EG.wm {g k : Nat} {ξ ξ' : gM} (hg : g < 5) (hk : k < 6) (e : EG g ξ ξ') : wv (ξ' 269) (ξ' 272 2) (ξ' 272 (10 + (6 * g + k))) g k = wv (ξ 269) (ξ 272 2) (ξ 272 (10 + (6 * g + k))) g k := by rw [e.k9, e.k2, e.kt hg hk]
theorem EG.pm {g k : Nat} {ξ ξ' : gM} (hg : g < 5) (hk : k < 6) (e : EG g ξ ξ') : pvm ξ' g k = pvm ξ g k := by unfold pvm; rw [e.wm hg hk, e.k9]
theorem nB.eg {g k : Nat} {ξ ξ' : gM} (hg : g < 5) (hk : k < 6) (h : nB g k ξ ξ') : EG g ξ ξ' := ⟨fun a h0 h1 _ => h.1 a h0 h1, ⟨h.2.1, fun _ => h.2.2.1 9 (by omega) (by omega) (by omega) (by omega) (by omega) (by omega)⟩, fun i h0 h1 h2 h3 h4 h5 h6 h7 h8 => h.2.2.1 i h0 h3 (by omega) (by omega) (by omega) h8⟩
theorem nB.ot {g k j : Nat} {ξ ξ' : gM} (hg : g < 5) (hj : j < 6) (ne : j ≠ k) (hk : k < 6) (h : nB g k ξ ξ') : ξ' 272 (40 + (6 * g + j)) = ξ 272 (40 + (6 * g + j)) ∧ ξ' 272 (70 + (6 * g + j)) = ξ 272 (70 + (6 * g + j)) := ⟨h.2.2.1 _ (by omega) (by omega) (by omega) (by omega) (by omega) (by omega), h.2.2.1 _ (by omega) (by omega) (by omega) (by omega) (by omega) (by omega)⟩
theorem HB.eg1 {g k : Nat} {ξ ξ' : gM} (hg : g < 5) (hk : k < 6) (h : HB g k ξ ξ') : EG g ξ ξ' := h.nb.1.eg hg hk
/-- a holder whose clock has run out sends -/
theorem nN44 {g k ct : Nat} {χ : gM} (hg : g < 5) (hk : k < 6) (h3 : χ 269 3 = nI ct) (hc : ct ≤ 24) : ∃ χ', fX12_sends_n44 (nI g) (nI k) (nI (6 * g + k)) χ = some χ' ∧ (∀ a, a ≠ 272 → a ≠ 275 → χ' a = χ a) ∧ (∀ i, i ≠ 5 → i ≠ 70 + (6 * g + k) → χ' 272 i = χ 272 i) ∧ (∀ j, j ≠ k → χ' 275 j = χ 275 j) ∧ (χ 272 (40 + (6 * g + k)) = 2 → χ 272 (70 + (6 * g + k)) = 0 → χ' 275 k = wv (χ 269) (χ 272 2) (χ 272 (10 + (6 * g + k))) g k) ∧ (¬ (χ 272 (40 + (6 * g + k)) = 2 ∧ χ 272 (70 + (6 * g + k)) = 0) → χ' = χ) := by
  have gk : gIn (nI k) 6 = true := gI hk (by decide)
  have ck : (nI k).toNatClampNeg = k := nI_clamp (by omega)
  have i28 : (28 : Int32) + nI g = nI (28 + g) := nI_add 28 _
  have g28 : gIn (nI (28 + g)) 209 = true := gI (by omega) (by decide)
  have c28 : (nI (28 + g)).toNatClampNeg = 28 + g := nI_clamp (by omega)
  have i70 : (70 : Int32) + nI (6 * g + k) = nI (70 + (6 * g + k)) := nI_add 70 _
  have g70 : gIn (nI (70 + (6 * g + k))) 490 = true := gI (by omega) (by decide)
  have c70 : (nI (70 + (6 * g + k))).toNatClampNeg = 70 + (6 * g + k) := nI_clamp (by omega)
  unfold fX12_sends_n44
  rw [mDoes hg hk, zBd_some]
  by_cases h2 : χ 272 (40 + (6 * g + k)) = 2
  · rw [if_pos h2, if_neg one_n0]
    simp only [zLt, zCk, gk, ck, i70, g70, c70, i28, g28, c28, ↓reduceIte]
    by_cases h0 : χ 272 (70 + (6 * g + k)) = 0
    · rw [if_pos h0, mWord hg hk h3 hc, zBd_some]
      refine ⟨_, rfl, fun a h1 h5 => by rw [zUp_ne _ h1, zUp_ne _ h1, zUp_ne _ h5], fun i h5 h7 => by rw [zUp_slot _ h7, zUp_slot _ h5, zUp_ne _ (by decide)], fun j hj => by rw [zUp_ne _ (by decide), zUp_ne _ (by decide), zUp_slot _ hj], fun _ _ => by rw [zUp_ne _ (by decide), zUp_ne _ (by decide), zUp_same], fun w => absurd ⟨h2, h0⟩ w⟩
    · rw [if_neg h0]
      exact ⟨χ, rfl, fun _ _ _ => rfl, fun _ _ _ => rfl, fun _ _ => rfl, fun _ w => absurd w h0, fun _ => rfl⟩
  · rw [if_neg h2, if_pos rfl]
    exact ⟨χ, rfl, fun _ _ _ => rfl, fun _ _ _ => rfl, fun _ _ => rfl, fun w => absurd w h2, fun _ => rfl⟩
/-- one member behind the sending -/
def nSP (g : Nat) (ξ0 ξ : gM) (j e : Nat) : Prop :=
  (ξ0 272 (40 + (6 * g + j)) = 0 ∧ ξ 275 j = 0 ∧ ξ 272 (40 + (6 * g + j)) = 0 ∧ e = 0) ∨ (ξ0 272 (40 + (6 * g + j)) = 2 ∧ (ξ 275 j = 0 ∨ ξ 275 j = wv (ξ0 269) (ξ0 272 2) (ξ0 272 (10 + (6 * g + j))) g j) ∧ ξ 272 (40 + (6 * g + j)) = 2 ∧ e = 0) ∨ (ξ0 272 (40 + (6 * g + j)) = 1 ∧ (ξ0 272 (70 + (6 * g + j))).toInt ≤ 0 ∧ ξ 275 j = wv (ξ0 269) (ξ0 272 2) (ξ0 272 (10 + (6 * g + j))) g j ∧ ξ 272 (40 + (6 * g + j)) = 2 ∧ e = 1) ∨ (ξ0 272 (40 + (6 * g + j)) = 1 ∧ 0 < (ξ0 272 (70 + (6 * g + j))).toInt ∧ ξ 275 j = 0 ∧ ξ 272 (40 + (6 * g + j)) = 1 ∧ ξ 272 (70 + (6 * g + j)) = ξ0 272 (70 + (6 * g + j)) ∧ e = 0)
def nIS (g k : Nat) (M : Int32) (ξ0 ξ : gM) (e : Nat → Nat) : Prop := EG g ξ0 ξ ∧ ξ 272 9 = ξ0 272 9 ∧ (0 ≤ (ξ 272 7).toInt ∧ (ξ 272 7).toInt ≤ 60) ∧ ξ 267 22 = M + nI (smN e 6) ∧ ∀ j, j < 6 → (j < k → nSP g ξ0 ξ j (e j)) ∧ (k ≤ j → ξ 272 (40 + (6 * g + j)) = ξ0 272 (40 + (6 * g + j)) ∧ ξ 272 (70 + (6 * g + j)) = ξ0 272 (70 + (6 * g + j)) ∧ e j = 0)
theorem nSP.cg {g j e : Nat} {ξ0 ξ ξ' : gM} (h : nSP g ξ0 ξ j e) (h5 : ξ' 275 j = ξ 275 j) (hH : ξ' 272 (40 + (6 * g + j)) = ξ 272 (40 + (6 * g + j))) (hC : ξ' 272 (70 + (6 * g + j)) = ξ 272 (70 + (6 * g + j))) : nSP g ξ0 ξ' j e := by
  unfold nSP at *
  rw [h5, hH, hC]
  exact h
/-- behind a place: what changed is there alone -/
theorem nIS.put {g k d : Nat} {M : Int32} {ξ0 ξ ξ' : gM} {e : Nat → Nat} (h : nIS g k M ξ0 ξ e) (hk : k < 6) (eg : EG g ξ ξ') (e9 : ξ' 272 9 = ξ 272 9) (b7 : 0 ≤ (ξ' 272 7).toInt ∧ (ξ' 272 7).toInt ≤ 60) (mv : ξ' 267 22 = ξ 267 22 + nI d) (ot : ∀ j, j < 6 → j ≠ k → ξ' 272 (40 + (6 * g + j)) = ξ 272 (40 + (6 * g + j)) ∧ ξ' 272 (70 + (6 * g + j)) = ξ 272 (70 + (6 * g + j)) ∧ ξ' 275 j = ξ 275 j) (its : nSP g ξ0 ξ' k d) : nIS g (k + 1) M ξ0 ξ' (nU e k (e k + d)) := by
  obtain ⟨h1, h2, h3, h4, h5⟩ := h
  refine ⟨h1.tr eg, e9.trans h2, b7, ?_, fun j hj => ?_⟩
  · rw [mv, h4, smU, if_pos hk, Int32.add_assoc, nI_add]
  · by_cases c : j = k
    · subst c
      refine ⟨fun _ => ?_, fun w => by omega⟩
      rw [nU_s, ((h5 j hj).2 (Nat.le_refl _)).2.2, Nat.zero_add]
      exact its
    · rw [nU_n _ _ c]
      obtain ⟨o1, o2, o3⟩ := ot j hj c
      refine ⟨fun w => ((h5 j hj).1 (by omega)).cg o3 o1 o2, fun w => ?_⟩
      rw [o1, o2]
      exact (h5 j hj).2 (by omega)
theorem nSnd {g cn ct : Nat} {M : Int32} {ξ0 : gM} (p : nP g cn ct ξ0) : ∀ (m k : Nat) (ξ : gM) (e : Nat → Nat), nIS g k M ξ0 ξ e → k ≤ cn → 6 < k + m → ∃ ξ' e', fX12_groupGoes_l2 m (nI g) (nI k) ξ = fX12_groupGoes_l47 100000 (nI g) (0 : Int32) ξ' ∧ nIS g cn M ξ0 ξ' e' := by
  obtain ⟨⟨hg, hn, hc⟩, p0, p3, pk⟩ := p
  intro m
  induction m with
  | zero => intro k ξ e _ hk h2; exact absurd h2 (by omega)
  | succ m ih =>
    intro k ξ e h hk h2
    have h' := h
    obtain ⟨h1, hx, h7, hM, h5⟩ := h'
    have q0 : ξ 269 0 = nI cn := by rw [h1.k9]; exact p0
    have q3 : ξ 269 3 = nI ct := by rw [h1.k9]; exact p3
    rw [fX12_groupGoes_l2]
    unfold fX12_gates
    rw [zBd_some, q0]
    by_cases ck : k = cn
    · subst ck
      rw [if_pos ((nIle (by omega) (by omega)).mpr (Nat.le_refl _))]
      exact ⟨ξ, e, rfl, h⟩
    · have k6 : k < 6 := by omega
      rw [if_neg (fun w => ck (by have := (nIle (by omega) (by omega)).mp w; omega))]
      have gk : gIn (nI k) 6 = true := gI k6 (by decide)
      have ckk : (nI k).toNatClampNeg = k := nI_clamp (by omega)
      have i40 : (40 : Int32) + nI (6 * g + k) = nI (40 + (6 * g + k)) := nI_add 40 _
      have g40 : gIn (nI (40 + (6 * g + k))) 490 = true := gI (by omega) (by decide)
      have c40 : (nI (40 + (6 * g + k))).toNatClampNeg = 40 + (6 * g + k) := nI_clamp (by omega)
      have i70 : (70 : Int32) + nI (6 * g + k) = nI (70 + (6 * g + k)) := nI_add 70 _
      have g70 : gIn (nI (70 + (6 * g + k))) 490 = true := gI (by omega) (by decide)
      have c70 : (nI (70 + (6 * g + k))).toNatClampNeg = 70 + (6 * g + k) := nI_clamp (by omega)
      have n00 : ∀ a, a ≠ 275 → gUp (gUp ξ 275 k 0) 275 k 0 a = ξ a := fun a ha => by rw [zUp_ne _ ha, zUp_ne _ ha]
      have z00 : gUp (gUp ξ 275 k 0) 275 k 0 275 k = 0 := zUp_same _ _ _ _
      have o00 : ∀ j, j ≠ k → gUp (gUp ξ 275 k 0) 275 k 0 275 j = ξ 275 j := fun j hj => by rw [zUp_slot _ hj, zUp_slot _ hj]
      have eg0 : ∀ χ : gM, (∀ a, a ≠ 275 → χ a = ξ a) → EG g ξ χ := fun χ hχ => ⟨fun a _ _ h5 => hχ a h5, ⟨fun i _ => by rw [hχ 267 (by decide)], fun _ => by rw [hχ 272 (by decide)]⟩, fun i _ _ _ _ _ _ _ _ _ => by rw [hχ 272 (by decide)]⟩
      obtain ⟨qH, qC, qe⟩ := (h5 k k6).2 (Nat.le_refl _)
      have z : nI 0 = 0 := rfl
      -- nothing is sent here
      have skip : ∀ χ : gM, (∀ a, a ≠ 275 → χ a = ξ a) → χ 275 k = 0 → (∀ j, j ≠ k → χ 275 j = ξ 275 j) → (ξ0 272 (40 + (6 * g + k)) = 0 ∨ ξ0 272 (40 + (6 * g + k)) = 2 ∨ (ξ0 272 (40 + (6 * g + k)) = 1 ∧ 0 < (ξ0 272 (70 + (6 * g + k))).toInt)) → nIS g (k + 1) M ξ0 χ (nU e k (e k + 0)) := fun χ e1 e2 e3 e4 => by
        have e72 := e1 272 (by decide)
        refine h.put k6 (eg0 χ e1) (by rw [e72]) (by rw [e72]; exact h7) (by rw [e1 267 (by decide), z, Int32.add_zero]) (fun j _ ne => ⟨by rw [e72], by rw [e72], e3 j ne⟩) ?_
        unfold nSP
        rw [e72, qH, qC]
        rcases e4 with e4 | e4 | ⟨e4, e5⟩
        · exact Or.inl ⟨e4, e2, e4, rfl⟩
        · exact Or.inr (Or.inl ⟨e4, Or.inl e2, e4, rfl⟩)
        · exact Or.inr (Or.inr (Or.inr ⟨e4, e5, e2, e4, rfl, rfl⟩))
      simp only [zLt, zCk, gk, ckk, mOf _ hg k6, zBd_some, i40, g40, c40, ↓reduceIte]
      rw [show gUp ξ 275 k 0 272 = ξ 272 from zUp_ne _ (by decide), show nI k + (1 : Int32) = nI (k + 1) from nI_1 k]
      rcases pk k k6 with w0 | ⟨kcn, pb, wn, w12⟩
      · rw [show ξ 272 (40 + (6 * g + k)) = 0 from qH.trans w0, if_pos rfl]
        exact ih (k + 1) _ _ (skip _ (fun a ha => zUp_ne _ ha) (zUp_same _ _ _ _) (fun j hj => zUp_slot _ hj) (Or.inl w0)) (by omega) (by omega)
      · have nz : ¬ ξ 272 (40 + (6 * g + k)) = 0 := by
          rw [qH]
          rcases w12 with w | w <;> rw [w] <;> decide
        rw [if_neg nz]
        unfold fX12_sends
        simp only [zLt, zCk, gk, ckk, mOf _ hg k6, zBd_some, i40, g40, c40, i70, g70, c70, ↓reduceIte]
        rw [show gUp (gUp ξ 275 k 0) 275 k 0 272 = ξ 272 from n00 272 (by decide)]
        generalize gUp (gUp ξ 275 k 0) 275 k 0 = χ at n00 z00 o00 ⊢
        have x72 := n00 272 (by decide)
        have x3 : χ 269 3 = nI ct := by rw [n00 269 (by decide)]; exact q3
        rcases w12 with w1 | w2
        · rw [if_pos (qH.trans w1)]
          by_cases cc : 0 < ξ 272 (70 + (6 * g + k))
          · rw [if_pos cc]
            have cp := Int32.lt_iff_toInt_lt.mp cc
            rw [qC] at cp
            obtain ⟨χ', e1, -, -, -, -, e6⟩ := nN44 (χ := χ) hg k6 x3 hc
            have e7 := e6 (fun w => by rw [x72, qH, w1] at w; exact absurd w.1 (by decide))
            rw [e1, zBd_some, e7]
            exact ih (k + 1) _ _ (skip χ n00 z00 o00 (Or.inr (Or.inr ⟨w1, cp⟩))) (by omega) (by omega)
          · rw [if_neg cc]
            have cp : (ξ0 272 (70 + (6 * g + k))).toInt ≤ 0 := by
              rw [← qC]
              exact Int.not_lt.mp (fun w => cc (Int32.lt_iff_toInt_lt.mpr w))
            obtain ⟨χ1, e1, hb⟩ := mHold (ξ := χ) hg k6 (by rw [x72]; exact h7)
            have eg1 := hb.eg1 hg k6
            rw [e1, zBd_some]
            obtain ⟨χ', e2, f1, f2, f3, f4, -⟩ := nN44 (χ := χ1) hg k6 (by rw [eg1.k9]; exact x3) hc
            rw [e2, zBd_some]
            have e10 := (eg0 χ n00).tr eg1
            have eg2 : EG g ξ χ' := e10.tr ⟨fun a h0 h1 h5 => f1 a h1 h5, ⟨fun i hi => by rw [f1 267 (by decide) (by decide)], fun _ => f2 9 (by omega) (by omega)⟩, fun i h0 h1 h2 h3 h4 h5 h6 h7 h8 => f2 i h1 (by omega)⟩
            obtain ⟨nb, mv⟩ := hb.nb
            refine ih (k + 1) _ _ (h.put (d := 1) k6 eg2 ?_ ?_ ?_ (fun j hj ne => ?_) ?_) (by omega) (by omega)
            · rw [f2 9 (by omega) (by omega), nb.2.2.1 9 (by omega) (by omega) (by omega) (by omega) (by omega) (by omega), x72]
            · rw [f2 7 (by omega) (by omega)]; exact nb.2.2.2
            · rw [f1 267 (by decide) (by decide), mv, n00 267 (by decide)]
            · obtain ⟨o1, o2⟩ := nb.ot hg hj ne k6
              rw [f2 _ (by omega) (by omega), f2 _ (by omega) (by omega), o1, o2, f3 j ne, hb.1 275 (by decide) (by decide), o00 j ne, x72]
              exact ⟨rfl, rfl, rfl⟩
            · refine Or.inr (Or.inr (Or.inl ⟨w1, cp, ?_, ?_, rfl⟩))
              · rw [f4 hb.2.2.1 hb.2.2.2.1, e10.wm hg k6, h1.wm hg k6]
              · rw [f2 _ (by omega) (by omega)]; exact hb.2.2.1
        · rw [if_neg (show ¬ ξ 272 (40 + (6 * g + k)) = 1 by rw [qH, w2]; decide)]
          obtain ⟨χ', e1, f1, f2, f3, f4, f5⟩ := nN44 (χ := χ) hg k6 x3 hc
          rw [e1, zBd_some]
          by_cases c0 : χ 272 (70 + (6 * g + k)) = 0
          · have eg2 : EG g ξ χ' := (eg0 χ n00).tr ⟨fun a h0 h1 h5 => f1 a h1 h5, ⟨fun i hi => by rw [f1 267 (by decide) (by decide)], fun _ => f2 9 (by omega) (by omega)⟩, fun i h0 h1 h2 h3 h4 h5 h6 h7 h8 => f2 i h1 (by omega)⟩
            refine ih (k + 1) _ _ (h.put (d := 0) k6 eg2 ?_ ?_ ?_ (fun j hj ne => ?_) ?_) (by omega) (by omega)
            · rw [f2 9 (by omega) (by omega), x72]
            · rw [f2 7 (by omega) (by omega), x72]; exact h7
            · rw [f1 267 (by decide) (by decide), n00 267 (by decide), z, Int32.add_zero]
            · rw [f2 _ (by omega) (by omega), f2 _ (by omega) (by omega), f3 j ne, o00 j ne, x72]
              exact ⟨rfl, rfl, rfl⟩
            · refine Or.inr (Or.inl ⟨w2, Or.inr ?_, ?_, rfl⟩)
              · rw [f4 (by rw [x72, qH]; exact w2) c0, (eg0 χ n00).wm hg k6, h1.wm hg k6]
              · rw [f2 _ (by omega) (by omega), x72, qH]; exact w2
          · rw [f5 (fun w => c0 w.2)]
            exact ih (k + 1) _ _ (skip χ n00 z00 o00 (Or.inr (Or.inl w2))) (by omega) (by omega)
/-- clocks go on -/
def nIW (g k : Nat) (ξ1 ξ : gM) : Prop := EG g ξ1 ξ ∧ ξ 272 9 = ξ1 272 9 ∧ ξ 275 = ξ1 275 ∧ ξ 267 = ξ1 267 ∧ ξ 272 7 = ξ1 272 7 ∧ ∀ j, j < 6 → ξ 272 (40 + (6 * g + j)) = ξ1 272 (40 + (6 * g + j)) ∧ ((k ≤ j ∨ ξ1 272 (40 + (6 * g + j)) = 0) → ξ 272 (70 + (6 * g + j)) = ξ1 272 (70 + (6 * g + j))) ∧ (j < k → ξ1 272 (40 + (6 * g + j)) ≠ 0 → ξ 272 (70 + (6 * g + j)) = ξ1 272 (70 + (6 * g + j)) - 1)
theorem nWnd {g cn : Nat} {ξ1 : gM} (hg : g < 5) (hn : cn ≤ 6) (p0 : ξ1 269 0 = nI cn) : ∀ (m k : Nat) (ξ : gM), nIW g k ξ1 ξ → k ≤ cn → 6 < k + m → ∃ ξ', fX12_groupGoes_l47 m (nI g) (nI k) ξ = fX12_groupGoes_l96 100000 (nI g) (0 : Int32) ξ' ∧ nIW g cn ξ1 ξ' := by
  intro m
  induction m with
  | zero => intro k ξ _ hk h2; exact absurd h2 (by omega)
  | succ m ih =>
    intro k ξ h hk h2
    have h' := h
    obtain ⟨h1, hx, h5, h67, h7, hj⟩ := h'
    rw [fX12_groupGoes_l47]
    unfold fX12_gates
    rw [zBd_some, h1.k9, p0]
    by_cases ck : k = cn
    · subst ck
      rw [if_pos ((nIle (by omega) (by omega)).mpr (Nat.le_refl _))]
      exact ⟨ξ, rfl, h⟩
    · have k6 : k < 6 := by omega
      rw [if_neg (fun w => ck (by have := (nIle (by omega) (by omega)).mp w; omega))]
      have i40 : (40 : Int32) + nI (6 * g + k) = nI (40 + (6 * g + k)) := nI_add 40 _
      have g40 : gIn (nI (40 + (6 * g + k))) 490 = true := gI (by omega) (by decide)
      have c40 : (nI (40 + (6 * g + k))).toNatClampNeg = 40 + (6 * g + k) := nI_clamp (by omega)
      have i70 : (70 : Int32) + nI (6 * g + k) = nI (70 + (6 * g + k)) := nI_add 70 _
      have g70 : gIn (nI (70 + (6 * g + k))) 490 = true := gI (by omega) (by decide)
      have c70 : (nI (70 + (6 * g + k))).toNatClampNeg = 70 + (6 * g + k) := nI_clamp (by omega)
      simp only [zLt, zCk, mOf _ hg k6, zBd_some, i40, g40, c40, i70, g70, c70, ↓reduceIte]
      rw [show nI k + (1 : Int32) = nI (k + 1) from nI_1 k]
      by_cases w0 : ξ 272 (40 + (6 * g + k)) = 0
      · rw [if_pos w0]
        refine ih (k + 1) ξ ⟨h1, hx, h5, h67, h7, fun j j6 => ⟨(hj j j6).1, fun w => ?_, fun w nz => ?_⟩⟩ (by omega) (by omega)
        · exact (hj j j6).2.1 (w.imp (fun w => by omega) id)
        · by_cases c : j = k
          · subst c
            exact absurd ((hj j j6).1.symm.trans w0) nz
          · exact (hj j j6).2.2 (by omega) nz
      · rw [if_neg w0]
        have o : ∀ i, i ≠ 70 + (6 * g + k) → gUp ξ 272 (70 + (6 * g + k)) (ξ 272 (70 + (6 * g + k)) - 1) 272 i = ξ 272 i := fun i hi => zUp_slot _ hi
        have oo : ∀ a, a ≠ 272 → gUp ξ 272 (70 + (6 * g + k)) (ξ 272 (70 + (6 * g + k)) - 1) a = ξ a := fun a ha => zUp_ne _ ha
        refine ih (k + 1) _ ⟨h1.tr ⟨fun a h0 h1 h5 => oo a h1, ⟨fun i hi => by rw [oo 267 (by decide)], fun _ => o 9 (by omega)⟩, fun i h0 h1 h2 h3 h4 h5 h6 h7 h8 => o i (by omega)⟩, by rw [o 9 (by omega)]; exact hx, by rw [oo 275 (by decide)]; exact h5, by rw [oo 267 (by decide)]; exact h67, by rw [o 7 (by omega)]; exact h7, fun j j6 => ⟨by rw [o _ (by omega)]; exact (hj j j6).1, fun w => ?_, fun w nz => ?_⟩⟩ (by omega) (by omega)
        · have c : j ≠ k := fun c => by
            subst c
            rcases w with w | w
            · omega
            · exact w0 ((hj j j6).1.trans w)
          rw [o _ (by omega)]
          exact (hj j j6).2.1 (w.imp (fun w => by omega) id)
        · by_cases c : j = k
          · subst c
            rw [zUp_same, (hj j j6).2.1 (Or.inl (Nat.le_refl _))]
          · rw [o _ (by omega)]
            exact (hj j j6).2.2 (by omega) nz
/-- both: one member ahead of the letters -/
theorem nSW {g cn k e : Nat} {ξ0 ξ1 ξ2 : gM} (hk : k < 6) (kc : ξ0 272 (40 + (6 * g + k)) ≠ 0 → k < cn) (wn : ξ0 272 (40 + (6 * g + k)) ≠ 0 → wv (ξ0 269) (ξ0 272 2) (ξ0 272 (10 + (6 * g + k))) g k ≠ 0) (a : nSP g ξ0 ξ1 k e) (b : nIW g cn ξ1 ξ2) : tq_s (k < cn ∧ ξ2 275 k ≠ 0) (ξ0 272 (40 + (6 * g + k))).toInt.toNat (ξ0 272 (70 + (6 * g + k))).toInt (nS ξ2 g k e) ∧ (ξ2 275 k ≠ 0 → ξ2 275 k = wv (ξ0 269) (ξ0 272 2) (ξ0 272 (10 + (6 * g + k))) g k) ∧ (ξ0 272 (40 + (6 * g + k)) = 0 → ξ2 272 (40 + (6 * g + k)) = 0 ∧ ξ2 275 k = 0) ∧ (ξ0 272 (40 + (6 * g + k)) ≠ 0 → ξ2 272 (40 + (6 * g + k)) = 1 ∨ ξ2 272 (40 + (6 * g + k)) = 2) := by
  obtain ⟨-, -, b5, -, -, bj⟩ := b
  obtain ⟨bH, bC, bD⟩ := bj k hk
  have t1 : (1 : Int32).toInt.toNat = 1 := rfl
  have t2 : (2 : Int32).toInt.toNat = 2 := rfl
  have t0 : (0 : Int32).toInt.toNat = 0 := rfl
  have n10 : (1 : Int32) ≠ 0 := by decide
  have n20 : (2 : Int32) ≠ 0 := by decide
  unfold tq_s nS
  rw [bH, b5]
  rcases a with ⟨a1, a2, a3, a4⟩ | ⟨a1, a2, a3, a4⟩ | ⟨a1, a2, a3, a4, a5⟩ | ⟨a1, a2, a3, a4, a5, a6⟩
  · rw [a1, a3, a2]
    exact ⟨Or.inl ⟨t0, fun w => w.2 rfl, t0, a4⟩, fun w => absurd rfl w, fun _ => ⟨rfl, rfl⟩, fun w => absurd rfl w⟩
  · rw [a1, a3]
    refine ⟨Or.inr (Or.inl ⟨t2, t2, a4⟩), fun w => ?_, fun w => absurd w n20, fun _ => Or.inr rfl⟩
    rcases a2 with a2 | a2
    · exact absurd a2 w
    · exact a2
  · rw [a1, a4]
    exact ⟨Or.inr (Or.inr (Or.inl ⟨t1, a2, t2, a5⟩)), fun _ => a3, fun w => absurd w n10, fun _ => Or.inr rfl⟩
  · have nz : ξ1 272 (40 + (6 * g + k)) ≠ 0 := by rw [a4]; exact n10
    have e2 := bD (kc (by rw [a1]; exact n10)) nz
    rw [a5] at e2
    rw [a1, a4, e2, a3]
    have : (ξ0 272 (70 + (6 * g + k)) - 1).toInt = (ξ0 272 (70 + (6 * g + k))).toInt - 1 := iS rfl (iL (1) (1) rfl) (by omega) (by have := Int32.toInt_lt (ξ0 272 (70 + (6 * g + k))); omega)
    exact ⟨Or.inr (Or.inr (Or.inr ⟨t1, a2, fun w => w.2 rfl, t1, this, a6⟩)), fun w => absurd rfl w, fun w => absurd w n10, fun _ => Or.inl rfl⟩
