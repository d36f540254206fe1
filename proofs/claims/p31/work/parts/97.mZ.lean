/-! how both begin: the members of all groups come up -/
theorem pStart_k {s g cn cl cg ct : Nat} {F : Prop} {c M : Int32} {K : Int32 → Int32 → gM → Option gM} {KK : Int32 → gM → Option gM} (hs : 34 ≤ s) (hgc : g < cg) (hM : ∀ i, i < 6 → bt M i = decide (i < cn)) : ∀ (m k : Nat) (μ ξ : gM), CTX s F c μ ξ → NC μ ξ cn cl cg ct → GRP s g (fun j => k ≤ j) l0 μ ξ → (∀ j, k ≤ j → j < 6 → bt (μ (s + 5) g) j = false) → (∀ j, j < cn → bt (ξ 272 1) j = true) → k ≤ cn → 6 < k + m → ∃ μ' ξ', fX10_raise_l30 s K m M (nI g) (nI k) μ = K M (nI (g + 1)) μ' ∧ fX12_starts_l88 KK m (nI g) (nI k) ξ = KK (nI (g + 1)) ξ' ∧ CTX s F c μ' ξ' ∧ GRP s g no l0 μ' ξ' ∧ DG s g μ μ' ∧ EG g ξ ξ' := by
  intro m
  induction m with
  | zero => intro k μ ξ _ nc _ _ _ h1 h2; exact absurd h2 (by have := nc.1.1; omega)
  | succ m ih =>
    intro k μ ξ h nc gr nh up hk h2
    have b6 := nc.1.1
    have b5 := nc.1.2.2.1
    have g5 : g < 5 := by omega
    rw [fX12_starts_l88]
    unfold fX12_gates
    rw [zBd_some, nc.2.2.1]
    by_cases ck : k = cn
    · subst ck
      rw [if_pos ((nIle (by omega) (by omega)).mpr (Nat.le_refl _)), zLt_eq, show nI g + (1 : Int32) = nI (g + 1) from nI_1 g, cRise_t g5 (m + 1) k (by omega) h2 (fun i h1 h2 => by rw [hM i h2, decide_eq_false (by omega), Bool.and_false])]
      refine ⟨μ, ξ, rfl, rfl, h, ⟨fun j mj _ => gr.1 j mj (fun w => ?_), gr.2⟩, DG.rf _ _ _, EG.rf _ _⟩
      have := (h.1.mlt nc mj).1
      omega
    · have k6 : k < 6 := by omega
      rw [if_neg (fun w => ck (by have := (nIle (by omega) (by omega)).mp w; omega)), mMemb nc hgc (by omega), zBd_some, cRise g5 k6, hM k k6, decide_eq_true (show k < cn by omega), Bool.and_true, h.1.m11 g5]
      by_cases cm : bt (ξ 269 (48 + g)) k = true
      · have mk : mem (ξ 269) g k := ⟨g5, k6, cm⟩
        obtain ⟨-, w2, w3, -⟩ := h.2.2.1 g k mk
        rw [if_neg (by rw [cm]; decide), if_pos cm, if_neg one_n0, mWord g5 k6 nc.2.2.2.2.2 nc.1.2.2.2, zBd_some, ← w3]
        obtain ⟨μ1, ξ1, e1, e2, c1, g1, d1, r1, hb⟩ := pAct hs h gr mk (up k (by omega)) (nh k (Nat.le_refl _) k6)
        unfold cAct
        rw [e1, zBd_some]
        obtain ⟨μ', ξ', x1, x2, x3, x4, x5, x6⟩ := ih (k + 1) μ1 ξ1 c1 (nc.mv hs d1 r1) (g1.all (fun j w x => w (by have := x.1; have := x.2; omega)) (fun _ => Int.le_refl _)) (fun j h1 h2 => by rw [hb j (by omega) (by omega)]; exact nh j (by omega) h2) (fun j hj => by rw [r1.k1]; exact up j hj) (by omega) (by omega)
        refine ⟨μ', ξ', x1, ?_, x3, x4, d1.tr x5, r1.tr x6⟩
        by_cases cw : μ (s + 10) (6 * g + k) = 255
        · rw [if_pos cw] at e2 ⊢
          rw [e2, zBd_some, zLt_eq, show nI k + (1 : Int32) = nI (k + 1) from nI_1 k]
          exact x2
        · rw [if_neg cw] at e2 ⊢
          rw [e2, zBd_some, zLt_eq, show nI k + (1 : Int32) = nI (k + 1) from nI_1 k]
          exact x2
      · have cm' : bt (ξ 269 (48 + g)) k = false := Bool.eq_false_iff.mpr cm
        rw [if_pos cm', if_neg cm, if_pos rfl, zLt_eq, show nI k + (1 : Int32) = nI (k + 1) from nI_1 k]
        refine ih (k + 1) μ ξ h nc ⟨fun j mj hj => gr.1 j mj (fun w => ?_), gr.2⟩ (fun j h1 h2 => nh j (by omega) h2) up (by omega) (by omega)
        by_cases ej : j = k
        · have := mj.2.2
          rw [ej, cm'] at this
          exact absurd this (by decide)
        · exact hj (by omega)
theorem pStart_g {s cn cl cg ct : Nat} {F : Prop} {c M : Int32} (hs : 34 ≤ s) (hM : ∀ i, i < 6 → bt M i = decide (i < cn)) : ∀ (m g : Nat) (μ ξ : gM), CTX s F c μ ξ → NC μ ξ cn cl cg ct → (∀ g', g' < 5 → GRP s g' (fun _ => g ≤ g') l0 μ ξ) → (∀ g', g ≤ g' → g' < 5 → ∀ j, j < 6 → bt (μ (s + 5) g') j = false) → (∀ j, j < cn → bt (ξ 272 1) j = true) → g ≤ cg → 5 < g + m → ∃ μ' ξ', fX10_raise_l15 s m M (nI g) μ = some μ' ∧ fX12_starts_l78 m (nI g) ξ = some ξ' ∧ CTX s F c μ' ξ' ∧ GRS s μ' ξ' ∧ AF s μ μ' ∧ AR ξ ξ' ∧ ξ' 272 1 = ξ 272 1 := by
  intro m
  induction m with
  | zero => intro g μ ξ _ nc _ _ _ h1 h2; exact absurd h2 (by have := nc.1.2.2.1; omega)
  | succ m ih =>
    intro g μ ξ h nc gs nh up hg h2
    have b5 := nc.1.2.2.1
    rw [fX10_raise_l15, fX12_starts_l78, nc.2.1.2.2.1]
    unfold fX12_groups
    rw [zBd_some, nc.2.2.2.2.1]
    by_cases ck : g = cg
    · subst ck
      rw [if_pos ((nIle (by omega) (by omega)).mpr (Nat.le_refl _)), if_pos ((nIle (by omega) (by omega)).mpr (Nat.le_refl _))]
      refine ⟨μ, ξ, rfl, rfl, h, fun g' hg' => ⟨fun j mj _ => (gs g' hg').1 j mj (fun w => ?_), (gs g' hg').2⟩, AF.rf _ _, AR.rf _, rfl⟩
      have := (h.1.mlt nc mj).2
      omega
    · have g5 : g < 5 := by omega
      have nle : ¬ nI cg ≤ nI g := fun w => ck (by have := (nIle (by omega) (by omega)).mp w; omega)
      have ez : fX10_raise_l30 s (fX10_raise_l15 s m) 100000 M (nI g) (0 : Int32) μ = fX10_raise_l30 s (fX10_raise_l15 s m) 100000 M (nI g) (nI 0) μ := by rw [z32]
      have ey : fX12_starts_l88 (fX12_starts_l78 m) 100000 (nI g) (0 : Int32) ξ = fX12_starts_l88 (fX12_starts_l78 m) 100000 (nI g) (nI 0) ξ := by rw [z32]
      rw [if_neg nle, if_neg nle, ez, ey]
      obtain ⟨μ1, ξ1, e1, e2, c1, g1, d1, r1⟩ := pStart_k (K := fX10_raise_l15 s m) (KK := fX12_starts_l78 m) hs (show g < cg by omega) hM 100000 0 μ ξ h nc ((gs g g5).all (fun j w x => w (Nat.zero_le _)) (fun _ => Int.le_refl _)) (fun j _ h2 => nh g (Nat.le_refl _) g5 j h2) up (Nat.zero_le _) (by decide)
      rw [e1, e2]
      have gs1 : ∀ g', g' < 5 → GRP s g' (fun _ => g + 1 ≤ g') l0 μ1 ξ1 := fun g' hg' => by
        by_cases eg : g' = g
        · subst eg
          exact g1.all (fun j w x => x.elim) (fun _ => Int.le_refl _)
        · exact ((gs g' hg').fr g5 hg' eg d1 r1).all (fun j w x => w (by omega)) (fun _ => Int.le_refl _)
      obtain ⟨μ', ξ', x1, x2, x3, x4, x5, x6, x7⟩ := ih (g + 1) μ1 ξ1 c1 (nc.mv hs d1 r1) gs1 (fun g' h1 h2 j hj => by rw [(d1.2.2.1 g' (by omega)).1]; exact nh g' (by omega) h2 j hj) (fun j hj => by rw [r1.k1]; exact up j hj) (by omega) (by omega)
      exact ⟨μ', ξ', x1, x2, x3, x4, d1.af.tr x5, (r1.ar g5).tr x6, x7.trans r1.k1⟩
