/-! gates come up -/
/-- what an act at gates leaves: of the class, of the reference -/
def AF (s : Nat) (μ μ' : gM) : Prop := (∀ a, a < s ∨ a = s + 1 ∨ a = s + 2 ∨ a = s + 6 ∨ a = s + 7 ∨ a = s + 9 ∨ a = s + 10 ∨ a = s + 11 ∨ s + 14 < a → μ' a = μ a) ∧ (∀ i, i ≠ 4 → μ' (s + 14) i = μ (s + 14) i) ∧ ∀ i, i ≠ 1 → i ≠ 5 → i ≠ 6 → i ≠ 7 → μ' s i = μ s i
def AR (ξ ξ' : gM) : Prop := (∀ a, a ≠ 267 → a ≠ 272 → a ≠ 275 → ξ' a = ξ a) ∧ (∀ i, i ≠ 22 → ξ' 267 i = ξ 267 i) ∧ ∀ i, i = 0 ∨ i = 2 ∨ i = 3 ∨ i = 4 ∨ i = 8 ∨ (10 ≤ i ∧ i < 40) ∨ (130 ≤ i ∧ i < 140) ∨ (145 ≤ i ∧ i < 245) → ξ' 272 i = ξ 272 i
theorem AF.rf (s : Nat) (μ : gM) : AF s μ μ := ⟨fun _ _ => rfl, fun _ _ => rfl, fun _ _ _ _ _ => rfl⟩
theorem AF.tr {s : Nat} {a b c : gM} (h : AF s a b) (k : AF s b c) : AF s a c := ⟨fun i hi => (k.1 i hi).trans (h.1 i hi), fun i hi => (k.2.1 i hi).trans (h.2.1 i hi), fun i h1 h2 h3 h4 => (k.2.2 i h1 h2 h3 h4).trans (h.2.2 i h1 h2 h3 h4)⟩
theorem AR.rf (ξ : gM) : AR ξ ξ := ⟨fun _ _ _ _ => rfl, fun _ _ => rfl, fun _ _ => rfl⟩
theorem AR.tr {a b c : gM} (h : AR a b) (k : AR b c) : AR a c := ⟨fun i h1 h2 h3 => (k.1 i h1 h2 h3).trans (h.1 i h1 h2 h3), fun i hi => (k.2.1 i hi).trans (h.2.1 i hi), fun i hi => (k.2.2 i hi).trans (h.2.2 i hi)⟩
theorem DG.af {s g : Nat} {μ μ' : gM} (h : DG s g μ μ') : AF s μ μ' := ⟨fun a ha => h.1 a (by omega) (by omega) (by omega) (by omega) (by omega) (by omega) (by omega) (by omega), h.2.2.2.2, fun i _ h5 h6 h7 => h.2.1 i h5 h6 h7⟩
theorem EG.ar {g : Nat} {ξ ξ' : gM} (hg : g < 5) (h : EG g ξ ξ') : AR ξ ξ' := ⟨h.1, h.2.1.1, fun i hi => h.2.2 i (by omega) (by omega) (by omega) (by omega) (by omega) (by omega) (by omega) (by omega) (by omega)⟩
theorem AF.tf {s : Nat} {μ μ' : gM} (h : AF s μ μ') : TF s μ μ' := ⟨fun a ha => h.1 a (by omega), h.2.1⟩
theorem AR.rf' {ξ ξ' : gM} (h : AR ξ ξ') : RF ξ ξ' := ⟨h.1, h.2.1, fun i hi => h.2.2 i (by omega)⟩
theorem CN.mv {s g : Nat} {μ ξ μ' ξ' : gM} (h : CN s g μ ξ) (hg : g < 5) (a : AF s μ μ') (r : AR ξ ξ') : CN s g μ' ξ' := by
  unfold CN at *
  rw [a.1 (s + 6) (by omega), a.1 (s + 7) (by omega), r.2.2 (130 + g) (by omega), r.2.2 (135 + g) (by omega)]
  exact h
theorem NC.af {s cn cl cg ct : Nat} {μ ξ μ' ξ' : gM} (nc : NC μ ξ cn cl cg ct) (hs : 34 ≤ s) (a : AF s μ μ') (r : AR ξ ξ') : NC μ' ξ' cn cl cg ct := by
  unfold NC at *
  rw [r.1 269 (by decide) (by decide) (by decide), a.1 5 (by omega), a.1 4 (by omega)]
  exact nc
/-- a member of a gate that comes up -/
theorem pAct {s g k : Nat} {F : Prop} {c : Int32} {X : Nat → Prop} {μ ξ : gM} (hs : 34 ≤ s) (h : CTX s F c μ ξ) (gr : GRP s g X l0 μ ξ) (m : mem (ξ 269) g k) (up : bt (ξ 272 1) k = true) (nh : bt (μ (s + 5) g) k = false) : ∃ μ' ξ', (if μ (s + 10) (6 * g + k) = (255 : Int32) then fX10_hold s (nI g) (nI k) μ else fX10_await s (nI g) (nI k) μ) = some μ' ∧ (if μ (s + 10) (6 * g + k) = (255 : Int32) then fX12_toHold (nI g) (nI k) ξ else fX12_toWait (nI g) (nI k) ξ) = some ξ' ∧ CTX s F c μ' ξ' ∧ GRP s g (fun j => X j ∧ j ≠ k) l0 μ' ξ' ∧ DG s g μ μ' ∧ EG g ξ ξ' ∧ ∀ j, j < 32 → j ≠ k → bt (μ' (s + 5) g) j = bt (μ (s + 5) g) j := by
  have hk := m.2.1
  by_cases cw : μ (s + 10) (6 * g + k) = 255
  · rw [if_pos cw, if_pos cw]
    obtain ⟨μ', ξ', e1, e2, q, r, c1, g1⟩ := pHold hs h gr m up (Int.le_refl _)
    exact ⟨μ', ξ', e1, e2, c1, g1, q.dg hk, r.eg hk, fun j hj ne => by rw [q.2.1, pk_us, (btOr (by omega)).2 j hj ne]⟩
  · rw [if_neg cw, if_neg cw]
    obtain ⟨μ', ξ', e1, e2, q, -, c1, g1, d1, r1⟩ := pWait (lo' := l0) hs h gr m up nh (fun _ _ => Int.le_refl _) (by unfold l0; omega)
    exact ⟨μ', ξ', e1, e2, c1, g1, d1, r1, fun j hj ne => by rw [q.1 _ (by omega) (by omega)]⟩
theorem cM {x y : Int32} {j : Nat} (hj : j < 32) : ((x &&& y) &&& ((1 : Int32) <<< (nI j &&& 31))) = 0 ↔ (bt x j && bt y j) = false := by
  rw [bt_z]
  constructor
  · intro h
    have := h j hj
    rw [bt_and, bt_and, bt_one j hj j hj, decide_eq_true rfl, Bool.and_true] at this
    exact this
  · intro h i hi
    rw [bt_and, bt_and, bt_one j hj i hi]
    by_cases e : i = j
    · subst e; rw [h, Bool.false_and]
    · rw [decide_eq_false e, Bool.and_false]
/-- what the class does for one gate of one group that comes up -/
def cAct (s g k : Nat) (μ : gM) : Option gM := if μ (s + 10) (6 * g + k) = (255 : Int32) then fX10_hold s (nI g) (nI k) μ else fX10_await s (nI g) (nI k) μ
theorem cRise {s g j m : Nat} {M : Int32} {μ : gM} {K : Int32 → Int32 → gM → Option gM} (hg : g < 5) (hj : j < 6) : fX10_raise_l30 s K (m + 1) M (nI g) (nI j) μ = if (bt (μ 11 g) j && bt M j) = false then fX10_raise_l30 s K m M (nI g) (nI (j + 1)) μ else zBd (cAct s g j μ) (fun μ1 => fX10_raise_l30 s K m M (nI g) (nI (j + 1)) μ1) := by
  have gg : gIn (nI g) 5 = true := gI hg (by decide)
  have cgg : (nI g).toNatClampNeg = g := nI_clamp (by omega)
  have gm : gIn (nI (6 * g + j)) 30 = true := gI (by omega) (by decide)
  have cm : (nI (6 * g + j)).toNatClampNeg = 6 * g + j := nI_clamp (by omega)
  rw [fX10_raise_l30, if_neg (fun w => by have := (le6 (by omega)).mp w; omega)]
  unfold zCk
  rw [if_pos gg, cgg, o6f hg hj, if_pos gm, cm, zLt_eq]
  unfold cAct
  by_cases c : (bt (μ 11 g) j && bt M j) = false
  · rw [if_pos ((cM (by omega)).mpr c), if_pos c, show nI j + (1 : Int32) = nI (j + 1) from nI_1 j]
  · rw [if_neg (fun w => c ((cM (by omega)).mp w)), if_neg c]
    by_cases cw : μ (s + 10) (6 * g + j) = 255
    · rw [if_pos cw, if_pos cw]
      congr 1
      funext μ1
      rw [zLt_eq, show nI j + (1 : Int32) = nI (j + 1) from nI_1 j]
    · rw [if_neg cw, if_neg cw]
      congr 1
      funext μ1
      rw [zLt_eq, show nI j + (1 : Int32) = nI (j + 1) from nI_1 j]
theorem cRise_t {s g : Nat} {M : Int32} {μ : gM} {K : Int32 → Int32 → gM → Option gM} (hg : g < 5) : ∀ (m j : Nat), j ≤ 6 → 6 < j + m → (∀ i, j ≤ i → i < 6 → (bt (μ 11 g) i && bt M i) = false) → fX10_raise_l30 s K m M (nI g) (nI j) μ = K M (nI (g + 1)) μ := by
  intro m
  induction m with
  | zero => intro j h1 h2; exact absurd h2 (by omega)
  | succ m ih =>
    intro j h1 h2 hA
    by_cases c : j = 6
    · rw [fX10_raise_l30, if_pos ((le6 (by omega)).mpr (by omega)), zLt_eq, show nI g + (1 : Int32) = nI (g + 1) from nI_1 g]
    · rw [cRise hg (by omega), if_pos (hA j (by omega) (by omega))]
      exact ih (j + 1) (by omega) (by omega) (fun i h1 h2 => hA i (by omega) h2)
/-- one gate: all the others are passed by -/
theorem cRise_1 {s g k : Nat} {M : Int32} {μ : gM} {K : Int32 → Int32 → gM → Option gM} (hg : g < 5) (hk : k < 6) (hM : ∀ i, i < 6 → bt M i = decide (i = k)) (h11 : ∀ μ1, cAct s g k μ = some μ1 → μ1 11 = μ 11) : ∀ (m j : Nat), j ≤ k → 6 < j + m → fX10_raise_l30 s K m M (nI g) (nI j) μ = if bt (μ 11 g) k = false then K M (nI (g + 1)) μ else zBd (cAct s g k μ) (fun μ1 => K M (nI (g + 1)) μ1) := by
  intro m
  induction m with
  | zero => intro j h1 h2; exact absurd h2 (by omega)
  | succ m ih =>
    intro j h1 h2
    rw [cRise hg (by omega), hM j (by omega)]
    by_cases ej : j = k
    · subst ej
      rw [decide_eq_true rfl, Bool.and_true]
      have tail : ∀ μ1 : gM, μ1 11 = μ 11 → fX10_raise_l30 s K m M (nI g) (nI (j + 1)) μ1 = K M (nI (g + 1)) μ1 := fun μ1 e => cRise_t hg m (j + 1) (by omega) (by omega) (fun i h1 h2 => by rw [hM i h2, decide_eq_false (by omega), Bool.and_false])
      by_cases c : bt (μ 11 g) j = false
      · rw [if_pos c, if_pos c, tail μ rfl]
      · rw [if_neg c, if_neg c]
        cases e : cAct s g j μ with
        | none => rfl
        | some μ1 => rw [zBd_some, zBd_some, tail μ1 (h11 μ1 e)]
    · rw [decide_eq_false ej, Bool.and_false, if_pos rfl]
      exact ih (j + 1) (by omega) (by omega)
theorem mMemb {g k cn cl cg ct : Nat} {μ ξ : gM} (nc : NC μ ξ cn cl cg ct) (hg : g < cg) (hk : k < cn) : fX12_isMember (nI g) (nI k) ξ = some (if bt (ξ 269 (48 + g)) k = true then 1 else 0) := by
  have b := nc.1
  have tg : (nI g).toInt = g := tN (by omega)
  have tk : (nI k).toInt = k := tN (by omega)
  have i48 : (48 : Int32) + nI g = nI (48 + g) := nI_add 48 _
  unfold fX12_isMember fX12_isGroup fX12_isGate fX12_groups fX12_gates
  rw [zBd_some, nc.2.2.2.2.1, mIn32 _ (y := 0) rfl (m1_64 (by omega)), zBd_some, if_pos ⟨by omega, by omega⟩, zBd_some, nc.2.2.1, mIn32 _ (y := 0) rfl (m1_64 (by omega)), zBd_some, if_pos ⟨by omega, by omega⟩, i48]
  unfold zCk
  rw [if_pos (by decide), zBd_some, if_neg one_n0, zBd_some, if_neg one_n0, if_pos (gI (by omega) (by decide)), nI_clamp (by omega), mIsOf (by omega), zBd_some]
  split
  · rw [if_neg one_n0]
  · rw [if_pos rfl]
/-- all but one member, in the groups that are still to come -/
def oX (k g g' : Nat) : Nat → Prop := fun j => j = k ∧ g ≤ g'
theorem pRaise_l {s k cn cl cg ct : Nat} {F : Prop} {c M : Int32} (hs : 34 ≤ s) (hk : k < 6) (hM : ∀ i, i < 6 → bt M i = decide (i = k)) : ∀ (m g : Nat) (μ ξ : gM), CTX s F c μ ξ → NC μ ξ cn cl cg ct → k < cn → (∀ g', g' < 5 → GRP s g' (oX k g g') l0 μ ξ) → (∀ g', g ≤ g' → g' < 5 → bt (μ (s + 5) g') k = false) → bt (ξ 272 1) k = true → g ≤ cg → 5 < g + m → ∃ μ' ξ', fX10_raise_l15 s m M (nI g) μ = some μ' ∧ fX12_comesUp_l14 m (nI k) (nI g) ξ = some ξ' ∧ CTX s F c μ' ξ' ∧ GRS s μ' ξ' ∧ AF s μ μ' ∧ AR ξ ξ' ∧ ξ' 272 1 = ξ 272 1 := by
  intro m
  induction m with
  | zero => intro g μ ξ _ nc _ _ _ _ hk h2; exact absurd h2 (by have := nc.1.2.2.1; omega)
  | succ m ih =>
    intro g μ ξ h nc hkc gs nh up hgc h2
    have b5 := nc.1.2.2.1
    rw [fX10_raise_l15, fX12_comesUp_l14, nc.2.1.2.2.1]
    unfold fX12_groups
    rw [zBd_some, nc.2.2.2.2.1]
    by_cases ck : g = cg
    · subst ck
      rw [if_pos ((nIle (by omega) (by omega)).mpr (Nat.le_refl _)), if_pos ((nIle (by omega) (by omega)).mpr (Nat.le_refl _))]
      refine ⟨μ, ξ, rfl, rfl, h, fun g' hg' => ⟨fun j mj _ => (gs g' hg').1 j mj (fun w => ?_), (gs g' hg').2⟩, AF.rf _ _, AR.rf _, rfl⟩
      have := (h.1.mlt nc mj).2
      have := w.2
      omega
    · have g5 : g < 5 := by omega
      have nle : ¬ nI cg ≤ nI g := fun w => ck (by have := (nIle (by omega) (by omega)).mp w; omega)
      rw [if_neg nle, if_neg nle, mMemb nc (by omega) hkc, zBd_some]
      have d11 : ∀ μ1, cAct s g k μ = some μ1 → μ1 11 = μ 11 := fun μ1 e => by
        unfold cAct at e
        by_cases cw : μ (s + 10) (6 * g + k) = 255
        · rw [if_pos cw] at e
          obtain ⟨μ', e1, q⟩ := cHold (s := s) (k := k) g5 hk h.2.2.2.1
          rw [e1] at e
          obtain rfl := Option.some.inj e
          exact q.1 11 (by omega) (by omega) (by omega) (by omega) (by omega) (by omega) (by omega)
        · rw [if_neg cw] at e
          obtain ⟨μ', e1, q⟩ := cAwait (s := s) (μ := μ) g5 hk
          rw [e1] at e
          obtain rfl := Option.some.inj e
          exact q.1 11 (by omega) (by omega)
      have ez : fX10_raise_l30 s (fX10_raise_l15 s m) 100000 M (nI g) (0 : Int32) μ = fX10_raise_l30 s (fX10_raise_l15 s m) 100000 M (nI g) (nI 0) μ := by rw [z32]
      rw [ez, cRise_1 g5 hk hM d11 100000 0 (Nat.zero_le _) (by decide), h.1.m11 g5]
      by_cases cm : bt (ξ 269 (48 + g)) k = true
      · have mk : mem (ξ 269) g k := ⟨g5, hk, cm⟩
        obtain ⟨-, w2, w3, -⟩ := h.2.2.1 g k mk
        rw [if_neg (by rw [cm]; decide), if_pos cm, if_neg one_n0, mWord g5 hk nc.2.2.2.2.2 nc.1.2.2.2, zBd_some, ← w3]
        obtain ⟨μ1, ξ1, e1, e2, c1, g1, d1, r1, hb⟩ := pAct hs h (gs g g5) mk up (nh g (Nat.le_refl _) g5)
        unfold cAct
        rw [e1, zBd_some]
        have gs1 : ∀ g', g' < 5 → GRP s g' (oX k (g + 1) g') l0 μ1 ξ1 := fun g' hg' => by
          by_cases eg : g' = g
          · subst eg
            exact g1.all (fun j w x => w ⟨x.1.1, by have := x.2; exact absurd x.1.1 this⟩) (fun _ => Int.le_refl _)
          · exact ((gs g' hg').fr g5 hg' eg d1 r1).all (fun j w x => w ⟨x.1, by have := x.2; omega⟩) (fun _ => Int.le_refl _)
        have nh1 : ∀ g', g + 1 ≤ g' → g' < 5 → bt (μ1 (s + 5) g') k = false := fun g' h1 h2 => by
          rw [(d1.2.2.1 g' (by omega)).1]
          exact nh g' (by omega) h2
        obtain ⟨μ', ξ', x1, x2, x3, x4, x5, x6, x7⟩ := ih (g + 1) μ1 ξ1 c1 (nc.mv hs d1 r1) hkc gs1 nh1 (by rw [r1.k1]; exact up) (by omega) (by omega)
        refine ⟨μ', ξ', x1, ?_, x3, x4, d1.af.tr x5, (r1.ar g5).tr x6, x7.trans r1.k1⟩
        by_cases cw : μ (s + 10) (6 * g + k) = 255
        · rw [if_pos cw] at e2 ⊢
          rw [e2, zBd_some, zLt_eq, show nI g + (1 : Int32) = nI (g + 1) from nI_1 g]
          exact x2
        · rw [if_neg cw] at e2 ⊢
          rw [e2, zBd_some, zLt_eq, show nI g + (1 : Int32) = nI (g + 1) from nI_1 g]
          exact x2
      · have cm' : bt (ξ 269 (48 + g)) k = false := Bool.eq_false_iff.mpr cm
        rw [if_pos cm', if_neg cm, if_pos rfl, zLt_eq, show nI g + (1 : Int32) = nI (g + 1) from nI_1 g]
        refine ih (g + 1) μ ξ h nc hkc (fun g' hg' => ?_) (fun g' h1 h2 => nh g' (by omega) h2) up (by omega) (by omega)
        refine ⟨fun j mj hj => (gs g' hg').1 j mj (fun w => ?_), (gs g' hg').2⟩
        by_cases eg : g' = g
        · subst eg
          have := mj.2.2
          rw [w.1, cm'] at this
          exact absurd this (by decide)
        · exact hj ⟨w.1, by have := w.2; omega⟩
/-- who is up -/
theorem CTX.ups {s : Nat} {F : Prop} {c v : Int32} {μ ξ : gM} (h : CTX s F c μ ξ) (hs : 34 ≤ s) : CTX s F c (gUp μ s 1 v) (gUp ξ 272 1 v) := by
  have wm : ∀ a, a ≠ s → gUp μ s 1 v a = μ a := fun a ha => zUp_ne _ ha
  have wx : ∀ a, a ≠ 272 → gUp ξ 272 1 v a = ξ a := fun a ha => zUp_ne _ ha
  have wi : ∀ i, i ≠ 1 → gUp ξ 272 1 v 272 i = ξ 272 i := fun i hi => zUp_slot _ hi
  have ws : ∀ i, i ≠ 1 → gUp μ s 1 v s i = μ s i := fun i hi => zUp_slot _ hi
  obtain ⟨hn, ⟨n0, n1, n2, n3, n4, n5⟩, hw, a1, a2, a3⟩ := h
  refine ⟨hn.fr (fun a h1 h2 => wm a (by omega)) (wx 269 (by decide)), ⟨by rw [ws 0 (by decide), wi 0 (by decide)]; exact n0, by rw [zUp_same, zUp_same], by rw [ws 2 (by decide), wi 2 (by decide)]; exact n2, by rw [ws 3 (by decide), wi 3 (by decide)]; exact n3, by rw [ws 4 (by decide), wi 4 (by decide)]; exact n4, by rw [ws 5 (by decide), wi 9 (by decide)]; exact n5⟩, fun g k m => ?_, by rw [wm _ (by omega)]; exact a1, by rw [wi 7 (by decide)]; exact a2, fun f => ?_⟩
  · rw [wx 269 (by decide)] at m
    rw [wm _ (by omega), wm _ (by omega), wm _ (by omega), wx 269 (by decide), wi 2 (by decide), wi _ (by omega)]
    exact hw g k m
  · obtain ⟨f1, f2, f3, f4⟩ := a3 f
    exact ⟨f1.cg (wm _ (by omega)) (wm _ (by omega)) (wi 7 (by decide)) (fun i hi => wi i (by omega)), by rw [ws 6 (by decide), wi 5 (by decide)]; exact f2, by rw [ws 7 (by decide), wi 6 (by decide)]; exact f3, by rw [wm _ (by omega), wx 267 (by decide)]; exact f4⟩
/-- the others don't care for one gate's bit -/
theorem GRP.ups {s g k : Nat} {X : Nat → Prop} {v : Int32} {μ ξ : gM} (h : GRP s g X l0 μ ξ) (hv : ∀ j, j < 6 → j ≠ k → bt v j = bt (ξ 272 1) j) : GRP s g (fun j => X j ∨ j = k) l0 (gUp μ s 1 v) (gUp ξ 272 1 v) := by
  have wm : ∀ a, a ≠ s → gUp μ s 1 v a = μ a := fun a ha => zUp_ne _ ha
  have wx : gUp ξ 272 1 v 269 = ξ 269 := zUp_ne _ (by decide)
  have wi : ∀ i, i ≠ 1 → gUp ξ 272 1 v 272 i = ξ 272 i := fun i hi => zUp_slot _ hi
  obtain ⟨a1, a2, a3, a4⟩ := h
  refine ⟨fun j mj hj => ?_, fun j hj mj => ?_, fun j h6 h32 => ?_, ?_⟩
  · rw [wx] at mj
    have nk : j ≠ k := fun e => hj (Or.inr e)
    have := a1 j mj (fun w => hj (Or.inl w))
    unfold ST at *
    rw [wm (s + 12) (by omega), wm (s + 13) (by omega), wm (s + 5) (by omega), wi (70 + (6 * g + j)) (by omega), wi (100 + (6 * g + j)) (by omega), wi (40 + (6 * g + j)) (by omega), zUp_same, hv j mj.2.1 nk]
    exact this
  · rw [wx] at mj
    rw [wm _ (by omega), wi _ (by omega)]
    exact a2 j hj mj
  · rw [wm _ (by omega)]; exact a3 j h6 h32
  · rw [wm _ (by omega), wi _ (by omega)]; exact a4
/-- a gate that is down comes up, in both -/
theorem pRaise {s k cn cl cg ct : Nat} {F : Prop} {c M : Int32} {μ ξ : gM} (hs : 34 ≤ s) (h : SR s F c μ ξ) (nc : NC μ ξ cn cl cg ct) (hk : k < cn) (dn : bt (ξ 272 1) k = false) (hM : M = (1 : Int32) <<< (nI k &&& 31)) : ∃ μ' ξ', fX10_raise s M μ = some μ' ∧ fX12_comesUp (nI k) ξ = some ξ' ∧ SR s F c μ' ξ' ∧ AF s μ μ' ∧ AR ξ ξ' ∧ ξ' 272 1 = (ξ 272 1 ||| ((1 : Int32) <<< (nI k &&& 31))) := by
  obtain ⟨h1, h2, h3⟩ := h
  have k6 : k < 6 := by have := nc.1.1; omega
  have n1 : μ s 1 = ξ 272 1 := h1.2.1.2.1
  subst hM
  have c1 := h1.ups (v := ξ 272 1 ||| ((1 : Int32) <<< (nI k &&& 31))) hs
  have gs : ∀ g', g' < 5 → GRP s g' (oX k 0 g') l0 (gUp μ s 1 (ξ 272 1 ||| ((1 : Int32) <<< (nI k &&& 31)))) (gUp ξ 272 1 (ξ 272 1 ||| ((1 : Int32) <<< (nI k &&& 31)))) := fun g' hg' => ((h2 g' hg').ups (fun j hj ne => (btOr (by omega)).2 j (by omega) ne)).all (fun j w x => w (by
    rcases x with x | x
    · exact absurd x id
    · exact ⟨x, Nat.zero_le _⟩)) (fun _ => Int.le_refl _)
  have nh : ∀ g', 0 ≤ g' → g' < 5 → bt (gUp μ s 1 (ξ 272 1 ||| ((1 : Int32) <<< (nI k &&& 31))) (s + 5) g') k = false := fun g' _ hg' => by
    rw [zUp_ne _ (by omega)]
    rcases (h2 g' hg').hb hg' k6 with ⟨-, b, -⟩ | ⟨-, b, -⟩ | ⟨-, -, -, u⟩
    · exact b
    · exact b
    · rw [dn] at u; exact absurd u (by decide)
  have a0 : AF s μ (gUp μ s 1 (ξ 272 1 ||| ((1 : Int32) <<< (nI k &&& 31)))) := ⟨fun a ha => zUp_ne _ (by omega), fun i _ => by rw [zUp_ne _ (by omega)], fun i h1 _ _ _ => zUp_slot _ h1⟩
  have r0 : AR ξ (gUp ξ 272 1 (ξ 272 1 ||| ((1 : Int32) <<< (nI k &&& 31)))) := ⟨fun a _ h1 _ => zUp_ne _ h1, fun i _ => by rw [zUp_ne _ (by decide)], fun i hi => zUp_slot _ (by omega)⟩
  obtain ⟨μ', ξ', e1, e2, x3, x4, x5, x6, x7⟩ := pRaise_l hs k6 (fun i hi => bt_one k (by omega) i (by omega)) 100000 0 _ _ c1 (nc.af hs a0 r0) hk gs nh (by rw [zUp_same]; exact (btOr (by omega)).1) (Nat.zero_le _) (by decide)
  have a1 := a0.tr x5
  have r1 := r0.tr x6
  refine ⟨μ', ξ', ?_, ?_, ⟨x3, x4, fun g hg => (h3 g hg).mv hg a1 r1⟩, a1, r1, by rw [x7, zUp_same]⟩
  · unfold fX10_raise
    rw [zLt_eq, n1, z32]
    exact e1
  · unfold fX12_comesUp
    rw [zLt_eq, z32]
    exact e2
