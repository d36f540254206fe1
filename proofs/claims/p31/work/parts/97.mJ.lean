/-! clocks go on -/
theorem cWind_t {s g : Nat} {n A : Int32} {μ : gM} : ∀ (m k : Nat), k ≤ 6 → 6 < k + m → (∀ j, k ≤ j → j < 6 → bt A j = false) → fX10_wind_l21 s m (nI g) n A (nI k) μ = some μ := by
  intro m
  induction m with
  | zero => intro k h1 h2; exact absurd h2 (by omega)
  | succ m ih =>
    intro k h1 h2 hA
    rw [fX10_wind_l21, show (6 : Int32) = nI 6 from rfl]
    by_cases c : k = 6
    · rw [if_pos ((nIle (by omega) (by omega)).mpr (by omega))]
    · rw [if_neg (fun w => c (by have := (nIle (by omega) (by omega)).mp w; omega)), if_neg (fun w => by have := (bit1_iff (by omega)).mp w; rw [hA k (by omega) (by omega)] at this; exact absurd this (by decide))]
      simp only [zLt]
      rw [show nI k + (1 : Int32) = nI (k + 1) from nI_1 k]
      exact ih (k + 1) (by omega) (by omega) (fun j h1 h2 => hA j (by omega) h2)
/-- bits of those alive: none behind the last gate -/
theorem CTX.tail {s g cn cl cg ct : Nat} {F : Prop} {c A : Int32} {μ ξ : gM} (h : CTX s F c μ ξ) (nc : NC μ ξ cn cl cg ct) (hg : g < 5) (hA : ∀ j, j < 6 → bt A j = (bt (ξ 269 (48 + g)) j && bt (ξ 272 1) j)) : ∀ j, cn ≤ j → j < 6 → bt A j = false := fun j h1 h2 => by
  rw [hA j h2]
  cases e : bt (ξ 269 (48 + g)) j with
  | false => rfl
  | true =>
    have := (h.1.mlt nc ⟨hg, h2, e⟩).1
    omega
theorem NC.mv {s g cn cl cg ct : Nat} {μ ξ μ' ξ' : gM} (nc : NC μ ξ cn cl cg ct) (hs : 34 ≤ s) (d : DG s g μ μ') (e : EG g ξ ξ') : NC μ' ξ' cn cl cg ct := by
  unfold NC at *
  rw [e.k9, d.1 5 (by omega) (by omega) (by omega) (by omega) (by omega) (by omega) (by omega) (by omega), d.1 4 (by omega) (by omega) (by omega) (by omega) (by omega) (by omega) (by omega) (by omega)]
  exact nc
theorem pWind_l {s g cn cl cg ct : Nat} {F : Prop} {c A : Int32} (hs : 34 ≤ s) (hg : g < 5) : ∀ (m k : Nat) (μ ξ : gM), CTX s F c μ ξ → NC μ ξ cn cl cg ct → GRP s g no (lk0 k) μ ξ → (∀ j, j < 6 → bt A j = (bt (ξ 269 (48 + g)) j && bt (ξ 272 1) j)) → k ≤ cn → 6 < k + m → ∃ μ' ξ', fX10_wind_l21 s m (nI g) 1 A (nI k) μ = some μ' ∧ fX12_groupGoes_l47 m (nI g) (nI k) ξ = fX12_groupGoes_l96 100000 (nI g) (0 : Int32) ξ' ∧ OUT s g F c μ ξ μ' ξ' := by
  intro m
  induction m with
  | zero => intro k μ ξ _ nc _ _ hk h2; exact absurd h2 (by have := nc.1.1; omega)
  | succ m ih =>
    intro k μ ξ h nc gr hA hk h2
    have b6 := nc.1.1
    rw [fX12_groupGoes_l47]
    unfold fX12_gates
    rw [zBd_some, nc.2.2.1]
    by_cases ck : k = cn
    · subst ck
      rw [if_pos ((nIle (by omega) (by omega)).mpr (Nat.le_refl _))]
      exact ⟨μ, ξ, cWind_t (m + 1) k (by omega) (by omega) (h.tail nc hg hA), rfl, h, gr.low (fun j mj => by have := (h.1.mlt nc mj).1; unfold lk0 l0; rw [if_pos this]; exact Int.le_refl _), DG.rf _ _ _, EG.rf _ _, rfl⟩
    · have k6 : k < 6 := by omega
      rw [if_neg (fun w => ck (by have := (nIle (by omega) (by omega)).mp w; omega)), fX10_wind_l21, if_neg (fun w => by have := (le6 (by omega)).mp w; omega)]
      have i40 : (40 : Int32) + nI (6 * g + k) = nI (40 + (6 * g + k)) := nI_add 40 _
      have g40 : gIn (nI (40 + (6 * g + k))) 490 = true := gI (by omega) (by decide)
      have c40 : (nI (40 + (6 * g + k))).toNatClampNeg = 40 + (6 * g + k) := nI_clamp (by omega)
      have gm : gIn (nI (6 * g + k)) 30 = true := gI (by omega) (by decide)
      have cm : (nI (6 * g + k)).toNatClampNeg = 6 * g + k := nI_clamp (by omega)
      have i70 : (70 : Int32) + nI (6 * g + k) = nI (70 + (6 * g + k)) := nI_add 70 _
      have g70 : gIn (nI (70 + (6 * g + k))) 490 = true := gI (by omega) (by decide)
      have c70 : (nI (70 + (6 * g + k))).toNatClampNeg = 70 + (6 * g + k) := nI_clamp (by omega)
      simp only [zLt, zCk, mOf _ hg k6, zBd_some, i40, g40, c40, i70, g70, c70, o6f hg k6, gm, cm, ↓reduceIte]
      rw [show nI k + (1 : Int32) = nI (k + 1) from nI_1 k]
      rcases gr.how hg k6 with ⟨w0, wA⟩ | ⟨mk, up, w12⟩
      · rw [w0, if_pos rfl, if_neg (fun w => by have := (bit1_iff (by omega)).mp w; rw [hA k k6, wA] at this; exact absurd this (by decide))]
        refine ih (k + 1) μ ξ h nc (gr.low (fun j mj => ?_)) hA (by omega) (by omega)
        unfold lk0
        split <;> split <;> omega
      · have nz : ¬ ξ 272 (40 + (6 * g + k)) = 0 := by
          rcases w12 with ⟨-, w⟩ | ⟨-, w⟩ <;> rw [w] <;> decide
        obtain ⟨q1, q2, q3, q4, -⟩ := gr.1 k mk id
        have q4 := q4 up
        unfold lk0 at q4
        rw [if_neg (by omega)] at q4
        rw [if_neg nz, if_pos ((bit1_iff (by omega)).mpr (by rw [hA k k6, mk.2.2, up]; rfl))]
        have tv : (ξ 272 (70 + (6 * g + k)) - 1).toInt = (ξ 272 (70 + (6 * g + k))).toInt - 1 := iS rfl (iL (1) (1) rfl) (by omega) (by omega)
        have ps := pClk (lo' := lk0 (k + 1)) (v := ξ 272 (70 + (6 * g + k)) - 1) (μ' := gUp μ (s + 12) (6 * g + k) (μ (s + 12) (6 * g + k) - 1)) (ξ' := gUp ξ 272 (70 + (6 * g + k)) (ξ 272 (70 + (6 * g + k)) - 1)) hs h gr mk id up (by omega) (fun a h1 _ => zUp_ne _ h1) (fun i _ => by rw [zUp_ne _ (by omega)]) (fun j hj => zUp_slot _ hj) (by rw [zUp_same, q1]) (fun a h1 _ => zUp_ne _ h1) (fun i _ h2 => zUp_slot _ h2) (zUp_same _ _ _ _) (fun f => by rw [zUp_ne _ (by omega), zUp_slot _ (by omega)]; exact (h.2.2.2.2.2 f).2.1) (fun j hj => by unfold lk0; split <;> split <;> omega) (by unfold lk0; rw [if_pos (by omega)]; omega)
        obtain ⟨μ', ξ', r1, r2, r3⟩ := ih (k + 1) _ _ ps.1 (nc.mv hs ps.2.2.1 ps.2.2.2) ps.2.1 (by rw [ps.2.2.2.k9, ps.2.2.2.k1]; exact hA) (by omega) (by omega)
        exact ⟨μ', ξ', r1, r2, r3.1, r3.2.1, ps.2.2.1.tr r3.2.2.1, ps.2.2.2.tr r3.2.2.2.1, by rw [r3.2.2.2.2, zUp_ne _ (by decide)]⟩
/-! letters are read -/
theorem EG.k3 {g : Nat} {ξ ξ' : gM} (e : EG g ξ ξ') : ξ' 272 3 = ξ 272 3 := e.2.2 3 (by omega) (by omega) (by omega) (by omega) (by omega) (by omega) (by omega) (by omega) (by omega)
theorem mIsOf {x : Int32} {k : Nat} {ξ : gM} (hk : k < 32) : fX12_isOf x (nI k) ξ = some (if bt x k = true then 1 else 0) := by
  unfold fX12_isOf
  by_cases c : bt x k = true
  · rw [if_pos c, if_pos ((bit1_iff hk).mpr c)]
  · rw [if_neg c, if_neg (fun w => c ((bit1_iff hk).mp w))]
theorem mTog {f k : Nat} {ξ : gM} (hf : f < 6) (hk : k < 6) : fX12_areTogether (nI f) (nI k) ξ = some (if (bt (ξ 272 3) f == bt (ξ 272 3) k) = true then 1 else 0) := by
  unfold fX12_areTogether
  rw [mIsOf (by omega), mIsOf (by omega), zBd_some, zBd_some]
  cases bt (ξ 272 3) f <;> cases bt (ξ 272 3) k <;> rfl
theorem cDel_in_t {s g f : Nat} {S R : Int32} {μ : gM} {K2 : Int32 → Int32 → Int32 → gM → Option gM} : ∀ (m k : Nat), k ≤ 6 → 6 < k + m → (∀ j, k ≤ j → j < 6 → bt R j = false) → fX10_deliver_l56 s K2 m (nI g) S (nI f) R (nI k) μ = K2 (nI g) S (nI (f + 1)) μ := by
  intro m
  induction m with
  | zero => intro k h1 h2; exact absurd h2 (by omega)
  | succ m ih =>
    intro k h1 h2 hA
    rw [fX10_deliver_l56, show (6 : Int32) = nI 6 from rfl]
    simp only [zLt]
    by_cases c : k = 6
    · rw [if_pos ((nIle (by omega) (by omega)).mpr (by omega)), show nI f + (1 : Int32) = nI (f + 1) from nI_1 f]
    · rw [if_neg (fun w => c (by have := (nIle (by omega) (by omega)).mp w; omega)), if_neg (fun w => by have := (bit1_iff (by omega)).mp w; rw [hA k (by omega) (by omega)] at this; exact absurd this (by decide)), show nI k + (1 : Int32) = nI (k + 1) from nI_1 k]
      exact ih (k + 1) (by omega) (by omega) (fun j h1 h2 => hA j (by omega) h2)
/-- the readers of one sender's letter -/
def rdr (ξ : gM) (g f j : Nat) : Bool := (bt (ξ 269 (48 + g)) j && bt (ξ 272 1) j) && (bt (ξ 272 3) f == bt (ξ 272 3) j) && !decide (j = f)
theorem pDel_in {s g f cn cl cg ct : Nat} {F : Prop} {c S R : Int32} {K2 : Int32 → Int32 → Int32 → gM → Option gM} {K9 : Int32 → Int32 → gM → Option gM} (hs : 34 ≤ s) (hg : g < 5) (hf : f < 6) : ∀ (m k : Nat) (μ ξ : gM), CTX s F c μ ξ → NC μ ξ cn cl cg ct → GRP s g no l0 μ ξ → ξ 275 f = μ (s + 10) (6 * g + f) → (∀ j, j < 6 → bt R j = rdr ξ g f j) → k ≤ cn → 6 < k + m → ∃ μ' ξ', fX10_deliver_l56 s K2 m (nI g) S (nI f) R (nI k) μ = K2 (nI g) S (nI (f + 1)) μ' ∧ fX12_groupGoes_l118 K9 m (nI g) (nI f) (nI k) ξ = K9 (nI g) (nI (f + 1)) ξ' ∧ OUT s g F c μ ξ μ' ξ' := by
  intro m
  induction m with
  | zero => intro k μ ξ _ nc _ _ _ hk h2; exact absurd h2 (by have := nc.1.1; omega)
  | succ m ih =>
    intro k μ ξ h nc gr se hR hk h2
    have b6 := nc.1.1
    rw [fX12_groupGoes_l118]
    unfold fX12_gates
    rw [zBd_some, nc.2.2.1]
    by_cases ck : k = cn
    · subst ck
      rw [if_pos ((nIle (by omega) (by omega)).mpr (Nat.le_refl _))]
      refine ⟨μ, ξ, cDel_in_t (m + 1) k (by omega) (by omega) (fun j h1 h2 => ?_), by rw [zLt_eq, show nI f + (1 : Int32) = nI (f + 1) from nI_1 f], h, gr, DG.rf _ _ _, EG.rf _ _, rfl⟩
      have := h.tail (A := ξ 269 (48 + g) &&& ξ 272 1) nc hg (fun j _ => bt_and _ _ _) j h1 h2
      rw [bt_and] at this
      rw [hR j h2]
      unfold rdr
      rw [this, Bool.false_and, Bool.false_and]
    · have k6 : k < 6 := by omega
      rw [if_neg (fun w => ck (by have := (nIle (by omega) (by omega)).mp w; omega)), fX10_deliver_l56, show (6 : Int32) = nI 6 from rfl, if_neg (fun w => by have := (nIle (by omega) (by omega)).mp w; omega)]
      have i40 : (40 : Int32) + nI (6 * g + k) = nI (40 + (6 * g + k)) := nI_add 40 _
      have g40 : gIn (nI (40 + (6 * g + k))) 490 = true := gI (by omega) (by decide)
      have c40 : (nI (40 + (6 * g + k))).toNatClampNeg = 40 + (6 * g + k) := nI_clamp (by omega)
      simp only [zLt, zCk, mOf _ hg k6, zBd_some, i40, g40, c40, ↓reduceIte]
      rw [show nI k + (1 : Int32) = nI (k + 1) from nI_1 k]
      have hb : ((R >>> (nI k &&& 31)) &&& (1 : Int32)) = (1 : Int32) ↔ rdr ξ g f k = true := by rw [bit1_iff (by omega), hR k k6]
      have skip : rdr ξ g f k = false → ∃ μ' ξ', fX10_deliver_l56 s K2 m (nI g) S (nI f) R (nI (k + 1)) μ = K2 (nI g) S (nI (f + 1)) μ' ∧ fX12_groupGoes_l118 K9 m (nI g) (nI f) (nI (k + 1)) ξ = K9 (nI g) (nI (f + 1)) ξ' ∧ OUT s g F c μ ξ μ' ξ' := fun _ => ih (k + 1) μ ξ h nc gr se hR (by omega) (by omega)
      by_cases ekf : k = f
      · have r0 : rdr ξ g f k = false := by unfold rdr; rw [decide_eq_true ekf, Bool.not_true, Bool.and_false]
        rw [if_neg (fun w => by have := hb.mp w; rw [r0] at this; exact absurd this (by decide)), if_pos (by rw [ekf])]
        exact skip r0
      · rw [if_neg (show ¬ nI k = nI f from fun w => ekf (nI_inj (by omega) (by omega) w))]
        rcases gr.how hg k6 with ⟨w0, wA⟩ | ⟨mk, up, w12⟩
        · have r0 : rdr ξ g f k = false := by unfold rdr; rw [wA, Bool.false_and, Bool.false_and]
          rw [if_neg (fun w => by have := hb.mp w; rw [r0] at this; exact absurd this (by decide)), w0, if_pos rfl]
          exact skip r0
        · have nz : ¬ ξ 272 (40 + (6 * g + k)) = 0 := by
            rcases w12 with ⟨-, w⟩ | ⟨-, w⟩ <;> rw [w] <;> decide
          have r1 : rdr ξ g f k = (bt (ξ 272 3) f == bt (ξ 272 3) k) := by unfold rdr; rw [mk.2.2, up, decide_eq_false ekf]; simp
          rw [if_neg nz, mTog hf k6, zBd_some]
          by_cases ct' : (bt (ξ 272 3) f == bt (ξ 272 3) k) = true
          · rw [if_pos (hb.mpr (by rw [r1]; exact ct')), if_pos ct', if_neg one_n0]
            obtain ⟨v, μ1, ξ1, e1, e2, hv, x1, x2, x3, x4, x5, x6⟩ := pLost hs hg h gr
            rw [e1, e2, zBp_some, zBp_some]
            have o1 : OUT s g F c μ ξ μ1 ξ1 := ⟨x1, x2, x3, x4, x5⟩
            have se1 : ξ1 275 f = μ1 (s + 10) (6 * g + f) := by rw [x5, x6]; exact se
            have hR1 : ∀ j, j < 6 → bt R j = rdr ξ1 g f j := fun j hj => by rw [hR j hj]; unfold rdr; rw [x4.k9, x4.k1, x4.k3]
            rcases hv with rfl | rfl
            · rw [if_pos rfl, if_pos rfl]
              obtain ⟨μ2, ξ2, e3, e4, o2⟩ := pRead (k := k) hs x1 x2 hf (by rw [x4.k9]; exact mk) (by rw [x4.k1]; exact up) se1
              rw [e3, e4, zBd_some, zBd_some]
              obtain ⟨μ', ξ', r1, r2, r3⟩ := ih (k + 1) μ2 ξ2 o2.1 ((nc.mv hs x3 x4).mv hs o2.2.2.1 o2.2.2.2.1) o2.2.1 (by rw [o2.2.2.2.2, o2.2.2.1.k10]; exact se1) (fun j hj => by rw [hR1 j hj]; unfold rdr; rw [o2.2.2.2.1.k9, o2.2.2.2.1.k1, o2.2.2.2.1.k3]) (by omega) (by omega)
              exact ⟨μ', ξ', r1, r2, (o1.tr o2).tr r3⟩
            · rw [if_neg one_n0, if_neg one_n0]
              obtain ⟨μ', ξ', r1, r2, r3⟩ := ih (k + 1) μ1 ξ1 x1 (nc.mv hs x3 x4) x2 se1 hR1 (by omega) (by omega)
              exact ⟨μ', ξ', r1, r2, o1.tr r3⟩
          · rw [if_neg (fun w => ct' (by have := hb.mp w; rw [r1] at this; exact this)), if_neg ct', if_pos rfl]
            exact skip (by rw [r1]; exact Bool.eq_false_iff.mpr ct')
theorem SD.kp {s g n : Nat} {S : Int32} {μ ξ μ' ξ' : gM} (h : SD s g n S μ ξ) (k : KP s μ ξ μ' ξ') : SD s g n S μ' ξ' := by
  unfold SD at *
  rw [k.1, k.2.1, k.2.2.1, k.2.2.2]
  exact h
theorem cBes {s f : Nat} {μ : gM} (hf : f < 6) : fX9_beside s (nI f) μ = some (if bt (μ s 3) f = true then μ s 3 else μ s 3 ^^^ (-1 : Int32)) := by
  unfold fX9_beside
  by_cases c : bt (μ s 3) f = true
  · rw [if_pos c, if_pos ((bit1_iff (by omega)).mpr c)]
  · rw [if_neg c, if_neg (fun w => c ((bit1_iff (by omega)).mp w))]
theorem cDel_t {s g : Nat} {S : Int32} {μ : gM} : ∀ (m f : Nat), f ≤ 6 → 6 < f + m → (∀ j, f ≤ j → j < 6 → bt S j = false) → fX10_deliver_l2 s m (nI g) S (nI f) μ = some μ := by
  intro m
  induction m with
  | zero => intro k h1 h2; exact absurd h2 (by omega)
  | succ m ih =>
    intro k h1 h2 hA
    rw [fX10_deliver_l2, show (6 : Int32) = nI 6 from rfl]
    by_cases c : k = 6
    · rw [if_pos ((nIle (by omega) (by omega)).mpr (by omega))]
    · rw [if_neg (fun w => c (by have := (nIle (by omega) (by omega)).mp w; omega)), if_pos ((bit0_iff (by omega)).mpr (hA k (by omega) (by omega)))]
      simp only [zLt]
      rw [show nI k + (1 : Int32) = nI (k + 1) from nI_1 k]
      exact ih (k + 1) (by omega) (by omega) (fun j h1 h2 => hA j (by omega) h2)
theorem pDel_l {s g cn cl cg ct : Nat} {F : Prop} {c S : Int32} (hs : 34 ≤ s) (hg : g < 5) : ∀ (m f : Nat) (μ ξ : gM), CTX s F c μ ξ → NC μ ξ cn cl cg ct → GRP s g no l0 μ ξ → SD s g cn S μ ξ → f ≤ cn → 6 < f + m → ∃ μ' ξ', fX10_deliver_l2 s m (nI g) S (nI f) μ = some μ' ∧ fX12_groupGoes_l96 m (nI g) (nI f) ξ = some ξ' ∧ OUT s g F c μ ξ μ' ξ' := by
  intro m
  induction m with
  | zero => intro k μ ξ _ nc _ _ hk h2; exact absurd h2 (by have := nc.1.1; omega)
  | succ m ih =>
    intro f μ ξ h nc gr sd hk h2
    have b6 := nc.1.1
    rw [fX12_groupGoes_l96]
    unfold fX12_gates
    rw [zBd_some, nc.2.2.1]
    by_cases ck : f = cn
    · subst ck
      rw [if_pos ((nIle (by omega) (by omega)).mpr (Nat.le_refl _))]
      exact ⟨μ, ξ, cDel_t (m + 1) f (by omega) (by omega) (fun j h1 h2 => (sd j h2).2 h1), rfl, h, gr, DG.rf _ _ _, EG.rf _ _, rfl⟩
    · have f6 : f < 6 := by omega
      have gf : gIn (nI f) 6 = true := gI f6 (by decide)
      have cf : (nI f).toNatClampNeg = f := nI_clamp (by omega)
      have gg : gIn (nI g) 5 = true := gI hg (by decide)
      have cgg : (nI g).toNatClampNeg = g := nI_clamp (by omega)
      rw [if_neg (fun w => ck (by have := (nIle (by omega) (by omega)).mp w; omega)), fX10_deliver_l2, show (6 : Int32) = nI 6 from rfl, if_neg (fun w => by have := (nIle (by omega) (by omega)).mp w; omega)]
      simp only [zLt, zCk, gf, cf, gg, cgg, cBes f6, zBd_some, ↓reduceIte]
      rw [show nI f + (1 : Int32) = nI (f + 1) from nI_1 f]
      rcases (sd f f6).1 (by omega) with ⟨s1, sm, su, s5, sn⟩ | ⟨s1, s5⟩
      · rw [if_neg (fun w => by have := (bit0_iff (by omega)).mp w; rw [s1] at this; exact absurd this (by decide)), if_neg sn]
        have hR : ∀ j, j < 6 → bt (((μ 11 g &&& μ s 1) &&& (if bt (μ s 3) f = true then μ s 3 else μ s 3 ^^^ (-1 : Int32))) &&& (((1 : Int32) <<< (nI f &&& 31)) ^^^ (-1 : Int32))) j = rdr ξ g f j := fun j hj => by
          rw [bt_and, bt_and, bt_and, bt_not _ (by omega), bt_one f (by omega) j (by omega), h.1.m11 hg, h.2.1.2.1, h.2.1.2.2.2.1]
          unfold rdr
          have : bt (if bt (ξ 272 3) f = true then ξ 272 3 else ξ 272 3 ^^^ (-1 : Int32)) j = (bt (ξ 272 3) f == bt (ξ 272 3) j) := by
            cases e : bt (ξ 272 3) f with
            | true => rw [if_pos rfl]; cases bt (ξ 272 3) j <;> rfl
            | false => rw [if_neg (by decide), bt_not _ (by omega)]; cases bt (ξ 272 3) j <;> rfl
          rw [this]
        obtain ⟨μ1, ξ1, e1, e2, o1⟩ := pDel_in (c := c) (S := S) (K2 := fX10_deliver_l2 s m) (K9 := fX12_groupGoes_l96 m) hs hg f6 100000 0 μ ξ h nc gr s5 hR (by omega) (by omega)
        rw [show (0 : Int32) = nI 0 from rfl, e1, e2]
        obtain ⟨μ', ξ', r1, r2, r3⟩ := ih (f + 1) μ1 ξ1 o1.1 (nc.mv hs o1.2.2.1 o1.2.2.2.1) o1.2.1 (sd.kp o1.kp) (by omega) (by omega)
        exact ⟨μ', ξ', r1, r2, o1.tr r3⟩
      · rw [if_pos ((bit0_iff (by omega)).mpr s1), if_pos s5]
        exact ih (f + 1) μ ξ h nc gr sd (by omega) (by omega)
theorem z32 : (0 : Int32) = nI 0 := rfl
theorem cSendE {s g : Nat} {μ : gM} (hg : g < 5) : fX10_send s (nI g) μ = fX10_send_l23 s 100000 (nI g) (nI 0) (μ 11 g &&& μ s 1) (nI 0) μ := by
  have gg : gIn (nI g) 5 = true := gI hg (by decide)
  have cgg : (nI g).toNatClampNeg = g := nI_clamp (by omega)
  unfold fX10_send
  rw [zLt_eq]
  unfold zCk
  rw [if_pos gg, cgg, z32]
theorem cWindE {s g : Nat} {n : Int32} {μ : gM} (hg : g < 5) : fX10_wind s (nI g) n μ = fX10_wind_l21 s 100000 (nI g) n (μ 11 g &&& μ s 1) (nI 0) μ := by
  have gg : gIn (nI g) 5 = true := gI hg (by decide)
  have cgg : (nI g).toNatClampNeg = g := nI_clamp (by omega)
  unfold fX10_wind
  rw [zLt_eq]
  unfold zCk
  rw [if_pos gg, cgg, z32]
theorem cDelE {s g : Nat} {S : Int32} {μ : gM} : fX10_deliver s (nI g) S μ = fX10_deliver_l2 s 100000 (nI g) S (nI 0) μ := by
  unfold fX10_deliver
  rw [z32]
theorem mGoesE {g : Nat} {ξ : gM} : fX12_groupGoes (nI g) ξ = fX12_groupGoes_l2 100000 (nI g) (nI 0) ξ := by
  unfold fX12_groupGoes
  rw [z32]
/-- one group goes by, but for its counts -/
theorem pGroupGoes {s g : Nat} {F : Prop} {c : Int32} {μ ξ : gM} (hs : 34 ≤ s) (hg : g < 5) (h : CTX s F c μ ξ) (gr : GRP s g no l0 μ ξ) : ∃ S μ1 μ2 μ' ξ', fX10_send s (nI g) μ = some (S, μ1) ∧ fX10_wind s (nI g) 1 μ1 = some μ2 ∧ fX10_deliver s (nI g) S μ2 = some μ' ∧ fX12_groupGoes (nI g) ξ = some ξ' ∧ CTX s F c μ' ξ' ∧ GRP s g no l0 μ' ξ' ∧ DG s g μ μ' ∧ EG g ξ ξ' := by
  obtain ⟨cn, cl, cg, ct, nc⟩ := h.1.nc
  have hA : ∀ (μ ξ : gM), CTX s F c μ ξ → ∀ j, j < 6 → bt (μ 11 g &&& μ s 1) j = (bt (ξ 269 (48 + g)) j && bt (ξ 272 1) j) := fun μ ξ h j _ => by rw [bt_and, h.1.m11 hg, h.2.1.2.1]
  have sd0 : SD s g 0 (nI 0) μ ξ := fun j _ => ⟨fun w => absurd w (by omega), fun _ => bt_zero j⟩
  have gr0 : GRP s g no (lk1 0) μ ξ := gr.low (fun j _ => by unfold lk1 l0; rw [if_neg (by omega)]; exact Int.le_refl _)
  obtain ⟨S, μ1, ξ1, e1, e2, c1, g1, sd1, d1, x1⟩ := pSend_l hs hg 100000 0 (nI 0) μ ξ h nc gr0 sd0 (hA μ ξ h) (Nat.zero_le _) (by decide)
  rw [z32] at e2
  have nc1 := nc.mv hs d1 x1
  obtain ⟨μ2, ξ2, e3, e4, o2⟩ := pWind_l hs hg 100000 0 μ1 ξ1 c1 nc1 g1 (hA μ1 ξ1 c1) (Nat.zero_le _) (by decide)
  rw [z32] at e4
  have nc2 := nc1.mv hs o2.2.2.1 o2.2.2.2.1
  obtain ⟨μ3, ξ3, e5, e6, o3⟩ := pDel_l hs hg 100000 0 μ2 ξ2 o2.1 nc2 o2.2.1 (sd1.kp o2.kp) (Nat.zero_le _) (by decide)
  refine ⟨S, μ1, μ2, μ3, ξ3, ?_, ?_, ?_, ?_, o3.1, o3.2.1, (d1.tr o2.2.2.1).tr o3.2.2.1, (x1.tr o2.2.2.2.1).tr o3.2.2.2.1⟩
  · rw [cSendE hg]; exact e1
  · rw [cWindE hg]; exact e3
  · rw [cDelE]; exact e5
  · rw [mGoesE, e2, e4, e6]
