/-! the reference alone: letters -/
def nPB (g : Nat) (ξ : gM) (f j : Nat) : Bool := !decide (j = f) && (decide (ξ 272 (40 + (6 * g + j)) ≠ 0) && (bt (ξ 272 3) f == bt (ξ 272 3) j))
def nx (c i x : Nat) : Nat := if c = 0 then x else lq_i i x
theorem nx_lt {c i x : Nat} (h : x < 2147483648) : nx c i x < 2147483648 := by
  unfold nx
  split
  · exact h
  · exact lq_i_lt h
theorem nx_s {c i x : Nat} (h : c ≠ 0) : lq_s (nx c i x) = nx c (i + 1) x := by
  unfold nx
  rw [if_neg h, if_neg h, lq_i_add]
  rfl
theorem nH1 {x : Int32} (h : x.toInt.toNat = 1) : x = 1 := by
  have e := nI_of' (x := x) (m := 1) (by omega)
  rw [e]; rfl
theorem nH2 {x : Int32} (h : x.toInt.toNat = 2) : x = 2 := by
  have e := nI_of' (x := x) (m := 2) (by omega)
  rw [e]; rfl
theorem nPB_z {g f j : Nat} {ξ : gM} (h : ξ 272 (40 + (6 * g + j)) = 0) : nPB g ξ f j = false := by
  unfold nPB
  rw [decide_eq_false (p := ξ 272 (40 + (6 * g + j)) ≠ 0) (fun w => w h), Bool.false_and, Bool.and_false]
/-- what is known of one letter -/
def nLT (g f c a x0 : Nat) (w : Int32) (ξ0 : gM) (j t : Nat) : Prop := (t ≠ 0 → nPB g ξ0 f j = true) ∧ t ≤ 2 ∧ (t = 1 → sg w (wv (ξ0 269) (ξ0 272 2) (ξ0 272 (10 + (6 * g + j))) g j) (nI f) (nI j) = 1) ∧ (t = 2 → sg w (wv (ξ0 269) (ξ0 272 2) (ξ0 272 (10 + (6 * g + j))) g j) (nI f) (nI j) = 0) ∧ (nPB g ξ0 f j = true → c ≠ 0 → (t = 0 ↔ lq_d (lq_i (a + lq_rw (nPB g ξ0 f) j + 1) x0) < c)) ∧ (nPB g ξ0 f j = true → c = 0 → t ≠ 0)
theorem nLT.no {g f c a x0 j : Nat} {w : Int32} {ξ0 : gM} (h : nPB g ξ0 f j = false) : nLT g f c a x0 w ξ0 j 0 := by
  refine ⟨fun w => absurd rfl w, by decide, fun w => by omega, fun w => by omega, fun w => ?_, fun w => ?_⟩
  · rw [h] at w; exact absurd w (by decide)
  · rw [h] at w; exact absurd w (by decide)
def nHq (g j : Nat) (ξ0 ξ : gM) : Prop := (ξ0 272 (40 + (6 * g + j)) = 0 → ξ 272 (40 + (6 * g + j)) = 0) ∧ (ξ0 272 (40 + (6 * g + j)) ≠ 0 → ξ 272 (40 + (6 * g + j)) = 1 ∨ ξ 272 (40 + (6 * g + j)) = 2)
def nIR (g k f c a x0 : Nat) (M : Int32) (ξ0 ξs ξ : gM) (es e t : Nat → Nat) : Prop := EG g ξ0 ξ ∧ ξ 275 = ξs 275 ∧ (0 ≤ (ξ 272 7).toInt ∧ (ξ 272 7).toInt ≤ 60) ∧ ξ 267 22 = M + nI (smN e 6) ∧ ξ 272 9 = nI (nx c (a + lq_rw (nPB g ξ0 f) k) x0) ∧ ∀ j, j < 6 → tq_l (t j) (nS ξs g j (es j)) (nS ξ g j (e j)) ∧ (k ≤ j → ξ 272 (40 + (6 * g + j)) = ξs 272 (40 + (6 * g + j)) ∧ ξ 272 (70 + (6 * g + j)) = ξs 272 (70 + (6 * g + j)) ∧ e j = es j ∧ t j = 0) ∧ nHq g j ξ0 ξ ∧ (j < k → nLT g f c a x0 (ξs 275 f) ξ0 j (t j))
theorem nS_e {ξ ξ' : gM} {g k e e' : Nat} (h : ξ' 272 (40 + (6 * g + k)) = ξ 272 (40 + (6 * g + k))) (hc : ξ' 272 (70 + (6 * g + k)) = ξ 272 (70 + (6 * g + k))) (he : e' = e) : nS ξ' g k e' = nS ξ g k e := by
  unfold nS
  rw [h, hc, he]
theorem nIR.put {g k f c a x0 d τ : Nat} {M : Int32} {ξ0 ξs ξ ξ' : gM} {es e t : Nat → Nat} (h : nIR g k f c a x0 M ξ0 ξs ξ es e t) (hk : k < 6) (eg : EG g ξ ξ') (e5 : ξ' 275 = ξ 275) (b7 : 0 ≤ (ξ' 272 7).toInt ∧ (ξ' 272 7).toInt ≤ 60) (mv : ξ' 267 22 = ξ 267 22 + nI d) (hx : ξ' 272 9 = nI (nx c (a + lq_rw (nPB g ξ0 f) (k + 1)) x0)) (ot : ∀ j, j < 6 → j ≠ k → ξ' 272 (40 + (6 * g + j)) = ξ 272 (40 + (6 * g + j)) ∧ ξ' 272 (70 + (6 * g + j)) = ξ 272 (70 + (6 * g + j))) (its : tq_l τ (nS ξ g k (e k)) (nS ξ' g k (e k + d))) (hq : nHq g k ξ0 ξ') (lt : nLT g f c a x0 (ξs 275 f) ξ0 k τ) : nIR g (k + 1) f c a x0 M ξ0 ξs ξ' es (nU e k (e k + d)) (nU t k τ) := by
  obtain ⟨h1, h2, h3, h4, h5, h6⟩ := h
  refine ⟨h1.tr eg, e5.trans h2, b7, ?_, hx, fun j hj => ?_⟩
  · rw [mv, h4, smU, if_pos hk, Int32.add_assoc, nI_add]
  · by_cases cj : j = k
    · subst cj
      obtain ⟨-, q, -⟩ := h6 j hj
      obtain ⟨q1, q2, q3, -⟩ := q (Nat.le_refl _)
      rw [nU_s, nU_s]
      refine ⟨?_, fun w => by omega, hq, fun _ => lt⟩
      rw [← nS_e q1 q2 q3]
      exact its
    · rw [nU_n _ _ cj, nU_n _ _ cj]
      obtain ⟨o1, o2⟩ := ot j hj cj
      obtain ⟨q1, q2, q3, q4⟩ := h6 j hj
      refine ⟨?_, fun w => ?_, ?_, fun w => q4 (by omega)⟩
      · rw [nS_e o1 o2 rfl]; exact q1
      · rw [o1, o2]; exact q2 (by omega)
      · unfold nHq at *
        rw [o1]
        exact q3
theorem nIR.skip {g k f c a x0 : Nat} {M : Int32} {ξ0 ξs ξ : gM} {es e t : Nat → Nat} (h : nIR g k f c a x0 M ξ0 ξs ξ es e t) (np : nPB g ξ0 f k = false) : nIR g (k + 1) f c a x0 M ξ0 ξs ξ es e t := by
  obtain ⟨h1, h2, h3, h4, h5, h6⟩ := h
  refine ⟨h1, h2, h3, h4, ?_, fun j hj => ?_⟩
  · show ξ 272 9 = nI (nx c (a + (lq_rw (nPB g ξ0 f) k + (if nPB g ξ0 f k = true then 1 else 0))) x0)
    rw [np]
    exact h5
  · obtain ⟨q1, q2, q3, q4⟩ := h6 j hj
    refine ⟨q1, fun w => q2 (by omega), q3, fun w => ?_⟩
    by_cases c : j = k
    · subst c
      rw [(q2 (Nat.le_refl _)).2.2.2]
      exact nLT.no np
    · exact q4 (by omega)
theorem tq_l_up {τ : Nat} {s s' : Nat × Int × Nat} (h : tq_l τ s s') (u : s.1 = 1 ∨ s.1 = 2) : s'.1 = 1 ∨ s'.1 = 2 := by
  rcases h with ⟨-, e⟩ | ⟨-, ⟨-, e, -⟩ | ⟨-, e, -⟩⟩ | ⟨-, ⟨-, e⟩ | ⟨-, e, -⟩ | ⟨-, e, -⟩⟩
  · rw [e]; exact u
  · exact Or.inl e
  · exact Or.inl e
  · rw [e]; exact u
  · exact Or.inr e
  · exact Or.inl e
theorem nPB_t {g f j : Nat} {ξ : gM} (h1 : j ≠ f) (h2 : ξ 272 (40 + (6 * g + j)) ≠ 0) (h3 : (bt (ξ 272 3) f == bt (ξ 272 3) j) = true) : nPB g ξ f j = true := by
  unfold nPB
  rw [decide_eq_false h1, decide_eq_true h2, h3]
  rfl
theorem nPB_d {g f j : Nat} {ξ : gM} (h : nPB g ξ f j = true) : j ≠ f ∧ ξ 272 (40 + (6 * g + j)) ≠ 0 ∧ (bt (ξ 272 3) f == bt (ξ 272 3) j) = true := by
  unfold nPB at h
  rw [Bool.and_eq_true, Bool.and_eq_true, Bool.not_eq_true'] at h
  exact ⟨of_decide_eq_false h.1, of_decide_eq_true h.2.1, h.2.2⟩
/-- one sender's letter, read by all -/
theorem nRow {g cn ct f c a x0 : Nat} {M : Int32} {ξ0 ξs : gM} {es : Nat → Nat} {K9 : Int32 → Int32 → gM → Option gM} (p : nP g cn ct ξ0) (hf : f < 6) (hc4 : ξ0 272 4 = nI c) (c99 : c ≤ 99) (hx0 : x0 < 2147483648) : ∀ (m k : Nat) (ξ : gM) (e t : Nat → Nat), nIR g k f c a x0 M ξ0 ξs ξ es e t → k ≤ cn → 6 < k + m → ∃ ξ' e' t', fX12_groupGoes_l118 K9 m (nI g) (nI f) (nI k) ξ = K9 (nI g) (nI (f + 1)) ξ' ∧ nIR g cn f c a x0 M ξ0 ξs ξ' es e' t' := by
  obtain ⟨⟨hg, hn, hct⟩, p0, p3, pk⟩ := p
  intro m
  induction m with
  | zero => intro k ξ e t _ hk h2; exact absurd h2 (by omega)
  | succ m ih =>
    intro k ξ e t h hk h2
    have h' := h
    obtain ⟨h1, h5, h7, hM, hx, hj⟩ := h'
    rw [fX12_groupGoes_l118]
    unfold fX12_gates
    rw [zBd_some, h1.k9, p0]
    by_cases ck : k = cn
    · subst ck
      rw [if_pos ((nIle (by omega) (by omega)).mpr (Nat.le_refl _)), zLt_eq, show nI f + (1 : Int32) = nI (f + 1) from nI_1 f]
      exact ⟨ξ, e, t, rfl, h⟩
    · have k6 : k < 6 := by omega
      rw [if_neg (fun w => ck (by have := (nIle (by omega) (by omega)).mp w; omega))]
      have i40 : (40 : Int32) + nI (6 * g + k) = nI (40 + (6 * g + k)) := nI_add 40 _
      have g40 : gIn (nI (40 + (6 * g + k))) 490 = true := gI (by omega) (by decide)
      have c40 : (nI (40 + (6 * g + k))).toNatClampNeg = 40 + (6 * g + k) := nI_clamp (by omega)
      simp only [zLt, zCk, mOf _ hg k6, zBd_some, i40, g40, c40, ↓reduceIte]
      rw [show nI k + (1 : Int32) = nI (k + 1) from nI_1 k]
      obtain ⟨j1, j2, j3, -⟩ := hj k k6
      by_cases ekf : k = f
      · have np : nPB g ξ0 f k = false := by unfold nPB; rw [decide_eq_true ekf]; rfl
        rw [if_pos (by rw [ekf])]
        exact ih (k + 1) ξ e t (h.skip np) (by omega) (by omega)
      · rw [if_neg (show ¬ nI k = nI f from fun w => ekf (nI_inj (by omega) (by omega) w))]
        by_cases w0 : ξ0 272 (40 + (6 * g + k)) = 0
        · have np : nPB g ξ0 f k = false := nPB_z w0
          rw [if_pos (j3.1 w0)]
          exact ih (k + 1) ξ e t (h.skip np) (by omega) (by omega)
        · have w12 := j3.2 w0
          rw [if_neg (show ¬ ξ 272 (40 + (6 * g + k)) = 0 by rcases w12 with w | w <;> rw [w] <;> decide), mTog hf k6, zBd_some, h1.k3]
          by_cases ctg : (bt (ξ0 272 3) f == bt (ξ0 272 3) k) = true
          · rw [if_pos ctg, if_neg one_n0]
            have np := nPB_t (g := g) ekf w0 ctg
            have e4 : ξ 272 4 = nI c := by rw [h1.k4 hg]; exact hc4
            have lrw : lq_rw (nPB g ξ0 f) (k + 1) = lq_rw (nPB g ξ0 f) k + 1 := by
              show lq_rw (nPB g ξ0 f) k + (if nPB g ξ0 f k = true then 1 else 0) = _
              rw [if_pos np]
            obtain ⟨kcn, pb, wn, -⟩ : k < cn ∧ 3 ≤ (pvm ξ0 g k).toInt ∧ wv (ξ0 269) (ξ0 272 2) (ξ0 272 (10 + (6 * g + k))) g k ≠ 0 ∧ (ξ0 272 (40 + (6 * g + k)) = 1 ∨ ξ0 272 (40 + (6 * g + k)) = 2) := by
              rcases pk k k6 with w | w
              · exact absurd w w0
              · exact w
            -- the letter is read
            have go : ∀ χ : gM, EG g ξ χ → χ 275 = ξ 275 → χ 267 = ξ 267 → (0 ≤ (χ 272 7).toInt ∧ (χ 272 7).toInt ≤ 60) → (∀ j, j < 6 → χ 272 (40 + (6 * g + j)) = ξ 272 (40 + (6 * g + j)) ∧ χ 272 (70 + (6 * g + j)) = ξ 272 (70 + (6 * g + j))) → χ 272 9 = nI (nx c (a + lq_rw (nPB g ξ0 f) (k + 1)) x0) → (∀ τ, τ = 1 ∨ τ = 2 → (τ = 1 → sg (ξs 275 f) (wv (ξ0 269) (ξ0 272 2) (ξ0 272 (10 + (6 * g + k))) g k) (nI f) (nI k) = 1) → (τ = 2 → sg (ξs 275 f) (wv (ξ0 269) (ξ0 272 2) (ξ0 272 (10 + (6 * g + k))) g k) (nI f) (nI k) = 0) → nLT g f c a x0 (ξs 275 f) ξ0 k τ) → ∃ ξ1, fX12_reads (nI g) (nI f) (nI k) χ = some ξ1 ∧ ∃ e' t', nIR g (k + 1) f c a x0 M ξ0 ξs ξ1 es e' t' := fun χ x1 x5 x6 x7 xo x9 lt => by
              have e0χ := h1.tr x1
              obtain ⟨ξ1, d, r1, r2, r3, r4⟩ := nwRead (ξ := χ) (g := g) (f := f) (k := k) (ct := ct) (e := e k) hg hf k6 (by rw [e0χ.k9]; exact p3) hct x7 (by rw [(xo k k6).1]; exact w12) (by rw [e0χ.pm hg k6]; exact pb)
              rw [e0χ.wm hg k6, x5, h5] at r4
              rw [nS_e (xo k k6).1 (xo k k6).2 rfl] at r4
              have hz := sg01 (ξs 275 f) (wv (ξ0 269) (ξ0 272 2) (ξ0 272 (10 + (6 * g + k))) g k) (nI f) (nI k)
              refine ⟨ξ1, r1, _, _, h.put k6 (x1.tr (r2.eg hg k6)) ?_ r2.2.2.2 ?_ ?_ (fun j j6 ne => ?_) r4 ?_ (lt _ ?_ ?_ ?_)⟩
              · rw [r2.1 275 (by decide) (by decide)]; exact x5
              · rw [r3, x6]
              · rw [r2.2.2.1 9 (by omega) (by omega) (by omega) (by omega) (by omega) (by omega)]; exact x9
              · obtain ⟨o1, o2⟩ := r2.ot hg j6 ne k6
                obtain ⟨o3, o4⟩ := xo j j6
                exact ⟨o1.trans o3, o2.trans o4⟩
              · refine ⟨fun w => absurd w w0, fun _ => ?_⟩
                have u : (nS ξ g k (e k)).1 = 1 ∨ (nS ξ g k (e k)).1 = 2 := by
                  rcases w12 with w | w
                  · exact Or.inl (nS_1 w)
                  · exact Or.inr (nS_2 w)
                rcases tq_l_up r4 u with w | w
                · exact Or.inl (nH1 w)
                · exact Or.inr (nH2 w)
              · rcases hz with z | z <;> rw [z]
                · exact Or.inr (if_neg (by decide))
                · exact Or.inl (if_pos rfl)
              · intro w
                rcases hz with z | z
                · rw [z, if_neg (by decide)] at w; omega
                · exact z
              · intro w
                rcases hz with z | z
                · exact z
                · rw [z, if_pos rfl] at w; omega
            rcases nwLost (ξ := ξ) (nx_lt hx0) hx c99 e4 with ⟨c0, el⟩ | ⟨c0, ξ1, el, l1, l2, l3⟩
            · rw [el, zBp_some, if_pos rfl]
              obtain ⟨ξ1, r1, e', t', r2⟩ := go ξ (EG.rf _ _) rfl rfl h7 (fun _ _ => ⟨rfl, rfl⟩) (by rw [hx]; unfold nx; rw [if_pos c0, if_pos c0]) (fun τ h12 s1 s2 => ⟨fun _ => np, by omega, s1, s2, fun _ w => absurd c0 w, fun _ _ => by omega⟩)
              rw [r1, zBd_some]
              exact ih (k + 1) ξ1 e' t' r2 (by omega) (by omega)
            · rw [el, zBp_some]
              rw [nx_s c0] at l3
              have lx : ξ1 272 9 = nI (nx c (a + lq_rw (nPB g ξ0 f) (k + 1)) x0) := by rw [lrw]; exact l3
              have egl : EG g ξ ξ1 := ⟨fun a _ h1 _ => l1 a h1, ⟨fun i _ => by rw [l1 267 (by decide)], fun w => absurd (nI_inj (a := c) (b := 0) (by omega) (by decide) (e4.symm.trans w)) c0⟩, fun i _ _ h6 _ h9 _ _ _ _ => l2 i h6 h9⟩
              have ol : ∀ j, j < 6 → ξ1 272 (40 + (6 * g + j)) = ξ 272 (40 + (6 * g + j)) ∧ ξ1 272 (70 + (6 * g + j)) = ξ 272 (70 + (6 * g + j)) := fun j _ => ⟨l2 _ (by omega) (by omega), l2 _ (by omega) (by omega)⟩
              have l7 : 0 ≤ (ξ1 272 7).toInt ∧ (ξ1 272 7).toInt ≤ 60 := by rw [l2 7 (by omega) (by omega)]; exact h7
              have lcond : lq_s (nx c (a + lq_rw (nPB g ξ0 f) k) x0) = lq_i (a + lq_rw (nPB g ξ0 f) k + 1) x0 := by
                rw [nx_s c0]
                unfold nx
                rw [if_neg c0]
              rw [lcond]
              by_cases cl : lq_d (lq_i (a + lq_rw (nPB g ξ0 f) k + 1) x0) < c
              · rw [if_pos cl, if_neg one_n0]
                obtain ⟨q1, q2, q3, q4⟩ := j2 (Nat.le_refl _)
                refine ih (k + 1) ξ1 _ _ (h.put (d := 0) (τ := 0) k6 egl (l1 275 (by decide)) l7 ?_ lx (fun j j6 _ => ol j j6) (Or.inl ⟨rfl, ?_⟩) ?_ ⟨fun w => absurd rfl w, by decide, fun w => by omega, fun w => by omega, fun _ _ => ⟨fun _ => cl, fun _ => rfl⟩, fun _ w => absurd w c0⟩) (by omega) (by omega)
                · rw [l1 267 (by decide), show nI 0 = 0 from rfl, Int32.add_zero]
                · exact nS_e (ol k k6).1 (ol k k6).2 rfl
                · refine ⟨fun w => absurd w w0, fun _ => ?_⟩
                  rw [(ol k k6).1]; exact w12
              · rw [if_neg cl, if_pos rfl]
                obtain ⟨ξ2, r1, e', t', r2⟩ := go ξ1 egl (l1 275 (by decide)) (l1 267 (by decide)) l7 ol lx (fun τ h12 s1 s2 => ⟨fun _ => np, by omega, s1, s2, fun _ _ => ⟨fun w => by omega, fun w => absurd w cl⟩, fun _ w => absurd w c0⟩)
                rw [r1, zBd_some]
                exact ih (k + 1) ξ2 e' t' r2 (by omega) (by omega)
          · have np : nPB g ξ0 f k = false := by unfold nPB; rw [Bool.eq_false_iff.mpr ctg, Bool.and_false, Bool.and_false]
            rw [if_neg ctg, if_pos rfl]
            exact ih (k + 1) ξ e t (h.skip np) (by omega) (by omega)
def nD (sn : Nat → Bool) (P : Nat → Nat → Bool) : Nat → Nat
  | 0 => 0
  | f + 1 => nD sn P f + (if sn f = true then lq_rw (P f) 6 else 0)
theorem lq_rw_k {p : Nat → Bool} {n : Nat} : ∀ {m : Nat}, n ≤ m → (∀ j, n ≤ j → j < m → p j = false) → lq_rw p m = lq_rw p n := by
  intro m
  induction m with
  | zero => intro h _; rw [show n = 0 by omega]
  | succ m ih =>
    intro h w
    by_cases c : n = m + 1
    · rw [c]
    · show lq_rw p m + (if p m = true then 1 else 0) = _
      rw [w m (by omega) (by omega), if_neg (by decide), ih (by omega) (fun j h1 h2 => w j h1 (by omega))]
      rfl
theorem nD_k {sn : Nat → Bool} {P : Nat → Nat → Bool} {n : Nat} : ∀ {m : Nat}, n ≤ m → (∀ j, n ≤ j → j < m → sn j = false) → nD sn P m = nD sn P n := by
  intro m
  induction m with
  | zero => intro h _; rw [show n = 0 by omega]
  | succ m ih =>
    intro h w
    by_cases c : n = m + 1
    · rw [c]
    · show nD sn P m + (if sn m = true then _ else 0) = _
      rw [w m (by omega) (by omega), if_neg (by decide), ih (by omega) (fun j h1 h2 => w j h1 (by omega))]
      rfl
theorem tq_g_cg {τ τ' : Nat → Nat} {a : Nat} {s : Nat × Int × Nat} : ∀ {n : Nat} {s' : Nat × Int × Nat}, (∀ f, a ≤ f → f < a + n → τ' f = τ f) → tq_g τ a n s s' → tq_g τ' a n s s' := by
  intro n
  induction n with
  | zero => intro s' _ h; exact h
  | succ n ih =>
    intro s' w h
    obtain ⟨t, h1, h2⟩ := h
    refine ⟨t, ih (fun f h1 h2 => w f h1 (by omega)) h1, ?_⟩
    rw [w (a + n) (by omega) (by omega)]
    exact h2
theorem tq_g_z {τ : Nat → Nat} {n : Nat} {s s' : Nat × Int × Nat} (h : tq_g τ 0 n s s') : ∀ {m : Nat}, n ≤ m → (∀ f, n ≤ f → f < m → τ f = 0) → tq_g τ 0 m s s' := by
  intro m
  induction m with
  | zero =>
    intro w _
    obtain rfl : n = 0 := by omega
    exact h
  | succ m ih =>
    intro w z
    by_cases c : n = m + 1
    · rw [← c]; exact h
    · refine ⟨s', ih (by omega) (fun f h1 h2 => z f h1 (by omega)), Or.inl ⟨?_, rfl⟩⟩
      exact z _ (by omega) (by omega)
/-- letters so far -/
def nIO (g f c x0 : Nat) (M : Int32) (ξ0 ξ2 ξ : gM) (sn : Nat → Bool) (e2 e : Nat → Nat) (τ : Nat → Nat → Nat) : Prop := EG g ξ0 ξ ∧ ξ 275 = ξ2 275 ∧ (0 ≤ (ξ 272 7).toInt ∧ (ξ 272 7).toInt ≤ 60) ∧ ξ 267 22 = M + nI (smN e 6) ∧ ξ 272 9 = nI (nx c (nD sn (nPB g ξ0) f) x0) ∧ ∀ j, j < 6 → tq_g (τ j) 0 f (nS ξ2 g j (e2 j)) (nS ξ g j (e j)) ∧ nHq g j ξ0 ξ ∧ ∀ f', f' < 6 → (f ≤ f' ∨ sn f' = false → τ j f' = 0) ∧ (f' < f → sn f' = true → nLT g f' c (nD sn (nPB g ξ0) f') x0 (ξ2 275 f') ξ0 j (τ j f'))
theorem nLet {g cn ct c x0 : Nat} {M : Int32} {ξ0 ξ2 : gM} {e2 : Nat → Nat} {sn : Nat → Bool} (p : nP g cn ct ξ0) (hc4 : ξ0 272 4 = nI c) (c99 : c ≤ 99) (hx0 : x0 < 2147483648) (hsn : ∀ f, f < cn → (sn f = true ↔ ξ2 275 f ≠ 0)) : ∀ (m f : Nat) (ξ : gM) (e : Nat → Nat) (τ : Nat → Nat → Nat), nIO g f c x0 M ξ0 ξ2 ξ sn e2 e τ → f ≤ cn → 6 < f + m → ∃ ξ' e' τ', fX12_groupGoes_l96 m (nI g) (nI f) ξ = some ξ' ∧ nIO g cn c x0 M ξ0 ξ2 ξ' sn e2 e' τ' := by
  have p' := p
  obtain ⟨⟨hg, hn, hct⟩, p0, p3, pk⟩ := p'
  intro m
  induction m with
  | zero => intro k ξ e τ _ hk h2; exact absurd h2 (by omega)
  | succ m ih =>
    intro f ξ e τ h hk h2
    have h' := h
    obtain ⟨h1, h5, h7, hM, hx, hj⟩ := h'
    rw [fX12_groupGoes_l96]
    unfold fX12_gates
    rw [zBd_some, h1.k9, p0]
    by_cases ck : f = cn
    · subst ck
      rw [if_pos ((nIle (by omega) (by omega)).mpr (Nat.le_refl _))]
      exact ⟨ξ, e, τ, rfl, h⟩
    · have f6 : f < 6 := by omega
      have gf : gIn (nI f) 6 = true := gI f6 (by decide)
      have cf : (nI f).toNatClampNeg = f := nI_clamp (by omega)
      rw [if_neg (fun w => ck (by have := (nIle (by omega) (by omega)).mp w; omega))]
      simp only [zLt, zCk, gf, cf, ↓reduceIte]
      rw [show nI f + (1 : Int32) = nI (f + 1) from nI_1 f, h5]
      by_cases s0 : ξ2 275 f = 0
      · rw [if_pos s0]
        have sf : sn f = false := by
          cases q : sn f with
          | false => rfl
          | true => exact absurd s0 ((hsn f (by omega)).mp q)
        refine ih (f + 1) ξ e τ ⟨h1, h5, h7, hM, ?_, fun j j6 => ?_⟩ (by omega) (by omega)
        · show ξ 272 9 = nI (nx c (nD sn (nPB g ξ0) f + (if sn f = true then lq_rw (nPB g ξ0 f) 6 else 0)) x0)
          rw [sf]
          exact hx
        · obtain ⟨q1, q2, q3⟩ := hj j j6
          refine ⟨⟨_, q1, Or.inl ⟨?_, rfl⟩⟩, q2, fun f' f6' => ⟨fun w => (q3 f' f6').1 (w.imp (fun w => by omega) id), fun w s => (q3 f' f6').2 ?_ s⟩⟩
          · rw [Nat.zero_add]; exact (q3 f f6).1 (Or.inl (Nat.le_refl _))
          · by_cases c : f' = f
            · rw [c, sf] at s; exact absurd s (by decide)
            · omega
      · rw [if_neg s0]
        have sf : sn f = true := (hsn f (by omega)).mpr s0
        have st : nIR g 0 f c (nD sn (nPB g ξ0) f) x0 M ξ0 ξ ξ e e (fun _ => 0) := ⟨h1, rfl, h7, hM, hx, fun j j6 => ⟨Or.inl ⟨rfl, rfl⟩, fun _ => ⟨rfl, rfl, rfl, rfl⟩, (hj j j6).2.1, fun w => absurd w (Nat.not_lt_zero _)⟩⟩
        obtain ⟨ξ1, e1, t1, r1, r2⟩ := nRow (K9 := fX12_groupGoes_l96 m) p f6 hc4 c99 hx0 100000 0 ξ e _ st (Nat.zero_le _) (by omega)
        rw [show (0 : Int32) = nI 0 from rfl, r1]
        obtain ⟨a1, a5, a7, aM, ax, aj⟩ := r2
        have rw6 : lq_rw (nPB g ξ0 f) 6 = lq_rw (nPB g ξ0 f) cn := lq_rw_k hn (fun j h1 h2 => by
          rcases pk j h2 with w | w
          · exact nPB_z w
          · omega)
        refine ih (f + 1) ξ1 e1 (fun j f' => if f' = f then t1 j else τ j f') ⟨a1, a5.trans h5, a7, aM, ?_, fun j j6 => ?_⟩ (by omega) (by omega)
        · show ξ1 272 9 = nI (nx c (nD sn (nPB g ξ0) f + (if sn f = true then lq_rw (nPB g ξ0 f) 6 else 0)) x0)
          rw [sf, if_pos rfl, rw6]
          exact ax
        · obtain ⟨q1, q2, q3⟩ := hj j j6
          obtain ⟨b1, b2, b3, b4⟩ := aj j j6
          refine ⟨⟨_, tq_g_cg (fun f' _ h2 => if_neg (by omega)) q1, ?_⟩, b3, fun f' f6' => ⟨fun w => ?_, fun w s => ?_⟩⟩
          · show tq_l (if 0 + f = f then t1 j else τ j (0 + f)) _ _
            rw [if_pos (Nat.zero_add f)]
            exact b1
          · show (if f' = f then t1 j else τ j f') = 0
            have ne : f' ≠ f := fun q => by
              subst q
              rcases w with w | w
              · omega
              · rw [sf] at w; exact absurd w (by decide)
            rw [if_neg ne]
            exact (q3 f' f6').1 (w.imp (fun w => by omega) id)
          · show nLT g f' c (nD sn (nPB g ξ0) f') x0 (ξ2 275 f') ξ0 j (if f' = f then t1 j else τ j f')
            by_cases ne : f' = f
            · subst ne
              rw [if_pos rfl, ← h5]
              by_cases jc : j < cn
              · exact b4 jc
              · rw [(b2 (by omega)).2.2.2]
                refine nLT.no ?_
                rcases pk j j6 with w | w
                · exact nPB_z w
                · omega
            · rw [if_neg ne]
              exact (q3 f' f6').2 (by omega) s
/-- a turn of a group -/
theorem nTurn {g cn ct c x0 : Nat} {ξ0 : gM} (p : nP g cn ct ξ0) (hc4 : ξ0 272 4 = nI c) (c99 : c ≤ 99) (h9 : ξ0 272 9 = nI x0) (hx0 : x0 < 2147483648) (h7 : 0 ≤ (ξ0 272 7).toInt ∧ (ξ0 272 7).toInt ≤ 60) : ∃ (ξ' : gM) (s : Nat → Nat × Int × Nat) (e : Nat → Nat) (τ : Nat → Nat → Nat) (sn : Nat → Bool), fX12_groupGoes (nI g) ξ0 = some ξ' ∧ EG g ξ0 ξ' ∧ (0 ≤ (ξ' 272 7).toInt ∧ (ξ' 272 7).toInt ≤ 60) ∧ ξ' 267 22 = ξ0 267 22 + nI (smN e 6) ∧ ξ' 272 9 = nI (nx c (nD sn (nPB g ξ0) 6) x0) ∧ ∀ j, j < 6 → tq_s (sn j = true) (ξ0 272 (40 + (6 * g + j))).toInt.toNat (ξ0 272 (70 + (6 * g + j))).toInt (s j) ∧ tq_g (τ j) 0 6 (s j) (nS ξ' g j (e j)) ∧ nHq g j ξ0 ξ' ∧ ∀ f, f < 6 → (sn f = false → τ j f = 0) ∧ (sn f = true → nLT g f c (nD sn (nPB g ξ0) f) x0 (wv (ξ0 269) (ξ0 272 2) (ξ0 272 (10 + (6 * g + f))) g f) ξ0 j (τ j f)) := by
  have p' := p
  obtain ⟨⟨hg, hn, hct⟩, p0, p3, pk⟩ := p'
  have st : nIS g 0 (ξ0 267 22) ξ0 ξ0 (fun _ => 0) := ⟨EG.rf _ _, rfl, h7, by rw [sm0, show nI 0 = 0 from rfl, Int32.add_zero], fun j _ => ⟨fun w => absurd w (Nat.not_lt_zero _), fun _ => ⟨rfl, rfl, rfl⟩⟩⟩
  obtain ⟨ξ1, e1, r1, s1, s9, s7, sM, sj⟩ := nSnd p 100000 0 ξ0 _ st (Nat.zero_le _) (by omega)
  have st2 : nIW g 0 ξ1 ξ1 := ⟨EG.rf _ _, rfl, rfl, rfl, rfl, fun j _ => ⟨rfl, fun _ => rfl, fun w => absurd w (Nat.not_lt_zero _)⟩⟩
  obtain ⟨ξ2, r2, w2⟩ := nWnd hg hn (by rw [s1.k9]; exact p0) 100000 0 ξ1 st2 (Nat.zero_le _) (by omega)
  have w2' := w2
  obtain ⟨w1, w9, w5, w67, w7, wj⟩ := w2'
  have sw : ∀ j, j < cn → _ := fun j hj => nSW (g := g) (cn := cn) (k := j) (e := e1 j) (ξ0 := ξ0) (ξ1 := ξ1) (ξ2 := ξ2) (by omega) (fun _ => hj) (fun nz => by rcases pk j (by omega) with w | w; exact absurd w nz; exact w.2.2.1) ((sj j (by omega)).1 hj) w2
  have dn : ∀ j, cn ≤ j → j < 6 → ξ0 272 (40 + (6 * g + j)) = 0 ∧ ξ2 272 (40 + (6 * g + j)) = 0 ∧ e1 j = 0 := fun j h1 h2 => by
    have z : ξ0 272 (40 + (6 * g + j)) = 0 := by
      rcases pk j h2 with w | w
      · exact w
      · omega
    obtain ⟨q1, -, q3⟩ := (sj j h2).2 h1
    exact ⟨z, by rw [(wj j h2).1, q1]; exact z, q3⟩
  have hq2 : ∀ j, j < 6 → nHq g j ξ0 ξ2 := fun j j6 => by
    by_cases jc : j < cn
    · obtain ⟨-, -, q3, q4⟩ := sw j jc
      exact ⟨fun w => (q3 w).1, q4⟩
    · obtain ⟨z0, z2, z3⟩ := dn j (by omega) j6
      exact ⟨fun _ => z2, fun w => absurd z0 w⟩
  have st3 : nIO g 0 c x0 (ξ0 267 22) ξ0 ξ2 ξ2 (fun f => decide (f < cn ∧ ξ2 275 f ≠ 0)) e1 e1 (fun _ _ => 0) := ⟨s1.tr w1, rfl, by rw [w7]; exact s7, by rw [w67]; exact sM, by rw [w9, s9, h9]; unfold nx; split <;> rfl, fun j j6 => ⟨rfl, hq2 j j6, fun f' _ => ⟨fun _ => rfl, fun w => absurd w (Nat.not_lt_zero _)⟩⟩⟩
  obtain ⟨ξ3, e3, τ, r3, t1, t5, t7, tM, tx, tj⟩ := nLet p hc4 c99 hx0 (fun f hf => ⟨fun w => (of_decide_eq_true w).2, fun w => decide_eq_true ⟨hf, w⟩⟩) 100000 0 ξ2 e1 _ st3 (Nat.zero_le _) (by omega)
  refine ⟨ξ3, fun j => nS ξ2 g j (e1 j), e3, τ, fun f => decide (f < cn ∧ ξ2 275 f ≠ 0), ?_, t1, t7, tM, ?_, fun j j6 => ?_⟩
  · rw [mGoesE, r1, show (0 : Int32) = nI 0 from rfl, r2, show (0 : Int32) = nI 0 from rfl, r3]
  · rw [nD_k hn (fun f h1 _ => decide_eq_false (fun w => by omega))]
    exact tx
  · obtain ⟨q1, q2, q3⟩ := tj j j6
    refine ⟨?_, tq_g_z q1 hn (fun f h1 h2 => (q3 f h2).1 (Or.inl h1)), q2, fun f f6 => ⟨fun w => (q3 f f6).1 (Or.inr w), fun w => ?_⟩⟩
    · by_cases jc : j < cn
      · have q := (sw j jc).1
        unfold tq_s at *
        rw [decide_eq_true_eq]
        exact q
      · obtain ⟨z0, z2, z3⟩ := dn j (by omega) j6
        refine Or.inl ⟨by rw [z0]; rfl, fun w => jc (of_decide_eq_true w).1, ?_, z3⟩
        show (ξ2 272 (40 + (6 * g + j))).toInt.toNat = 0
        rw [z2]; rfl
    · have fc := (of_decide_eq_true w).1
      rw [← (sw f fc).2.1 (of_decide_eq_true w).2]
      exact (q3 f f6).2 fc w
