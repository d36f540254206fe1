/-! who holds, who is up: the reference gathers them -/
theorem mBits_l {g cn : Nat} {lim : Int32} {ξ : gM} (hg : g < 5) (hc : cn ≤ 6) (h0 : ξ 269 0 = nI cn) : ∀ (m k : Nat) (acc : Int32), (∀ j, k ≤ j → j < 32 → bt acc j = false) → k ≤ cn → 6 < k + m → ∃ x, fX12_bitsOf_l5 m (nI g) lim acc (nI k) ξ = some x ∧ (∀ j, j < k → j < 32 → bt x j = bt acc j) ∧ ∀ j, k ≤ j → j < 32 → bt x j = (decide (j < cn) && !decide (ξ 272 (40 + (6 * g + j)) < lim)) := by
  intro m
  induction m with
  | zero => intro k acc _ hk h2; exact absurd h2 (by omega)
  | succ m ih =>
    intro k acc ha hk h2
    rw [fX12_bitsOf_l5]
    unfold fX12_gates
    rw [zBd_some, h0]
    by_cases ck : k = cn
    · subst ck
      rw [if_pos ((nIle (by omega) (by omega)).mpr (Nat.le_refl _))]
      exact ⟨acc, rfl, fun _ _ _ => rfl, fun j h1 h2 => by rw [ha j h1 h2, decide_eq_false (by omega), Bool.false_and]⟩
    · have k6 : k < 6 := by omega
      rw [if_neg (fun w => ck (by have := (nIle (by omega) (by omega)).mp w; omega)), mOf _ hg k6, zBd_some, show (40 : Int32) + nI (6 * g + k) = nI (40 + (6 * g + k)) from nI_add 40 _]
      unfold zCk
      rw [if_pos (gI (by omega) (by decide)), nI_clamp (by omega), zLt_eq, zLt_eq, zLt_eq, show nI k + (1 : Int32) = nI (k + 1) from nI_1 k]
      by_cases cl : ξ 272 (40 + (6 * g + k)) < lim
      · rw [if_pos cl]
        obtain ⟨x, e, q1, q2⟩ := ih (k + 1) acc (fun j h1 h2 => ha j (by omega) h2) (by omega) (by omega)
        refine ⟨x, e, fun j h1 h2 => q1 j (by omega) h2, fun j hj1 hj2 => ?_⟩
        by_cases ej : j = k
        · rw [q1 j (by omega) hj2, ha j (by omega) hj2, ej, decide_eq_true cl, Bool.not_true, Bool.and_false]
        · exact q2 j (by omega) hj2
      · rw [if_neg cl]
        obtain ⟨x, e, q1, q2⟩ := ih (k + 1) (acc ||| ((1 : Int32) <<< (nI k &&& 31))) (fun j h1 h2 => by rw [(btOr (by omega)).2 j h2 (by omega)]; exact ha j (by omega) h2) (by omega) (by omega)
        refine ⟨x, e, fun j h1 h2 => by rw [q1 j (by omega) h2, (btOr (by omega)).2 j h2 (by omega)], fun j hj1 hj2 => ?_⟩
        by_cases ej : j = k
        · rw [q1 j (by omega) hj2, ej, (btOr (by omega)).1, decide_eq_true (show k < cn by omega), decide_eq_false cl]; rfl
        · exact q2 j (by omega) hj2
theorem mBits {g cn : Nat} {lim : Int32} {ξ : gM} (hg : g < 5) (hc : cn ≤ 6) (h0 : ξ 269 0 = nI cn) : ∃ x, fX12_bitsOf (nI g) lim ξ = some x ∧ ∀ j, j < 32 → bt x j = (decide (j < cn) && !decide (ξ 272 (40 + (6 * g + j)) < lim)) := by
  obtain ⟨x, e, -, q⟩ := mBits_l (lim := lim) hg hc h0 100000 0 (nI 0) (fun j _ _ => bt_zero j) (Nat.zero_le _) (by decide)
  refine ⟨x, ?_, fun j hj => q j (Nat.zero_le _) hj⟩
  unfold fX12_bitsOf
  rw [z32]
  exact e
/-- what a member is, and whether the class holds it among the holders -/
theorem GRP.hb {s g k : Nat} {lo : Nat → Int} {μ ξ : gM} (h : GRP s g no lo μ ξ) (hg : g < 5) (hk : k < 6) : (ξ 272 (40 + (6 * g + k)) = 0 ∧ bt (μ (s + 5) g) k = false ∧ (bt (ξ 269 (48 + g)) k && bt (ξ 272 1) k) = false) ∨ (ξ 272 (40 + (6 * g + k)) = 1 ∧ bt (μ (s + 5) g) k = false ∧ mem (ξ 269) g k ∧ bt (ξ 272 1) k = true) ∨ (ξ 272 (40 + (6 * g + k)) = 2 ∧ bt (μ (s + 5) g) k = true ∧ mem (ξ 269) g k ∧ bt (ξ 272 1) k = true) := by
  by_cases m : mem (ξ 269) g k
  · obtain ⟨-, -, -, -, ⟨u, b, z, -⟩ | ⟨u, ⟨b, z⟩ | ⟨b, z⟩⟩⟩ := h.1 k m id
    · exact Or.inl ⟨z, b, by rw [u, Bool.and_false]⟩
    · exact Or.inr (Or.inl ⟨z, b, m, u⟩)
    · exact Or.inr (Or.inr ⟨z, b, m, u⟩)
  · have : bt (ξ 269 (48 + g)) k = false := by
      cases e : bt (ξ 269 (48 + g)) k with
      | false => rfl
      | true => exact absurd ⟨hg, hk, e⟩ m
    obtain ⟨z, b⟩ := h.2.1 k hk m
    exact Or.inl ⟨z, b, by rw [this, Bool.false_and]⟩
theorem mHeld {s g : Nat} {lo : Nat → Int} {μ ξ : gM} (n : NET μ ξ) (h : GRP s g no lo μ ξ) (hg : g < 5) : fX12_bitsOf (nI g) 2 ξ = some (μ (s + 5) g) := by
  obtain ⟨cn, cl, cg, ct, nc⟩ := n.nc
  obtain ⟨x, e, q⟩ := mBits (lim := 2) hg nc.1.1 nc.2.2.1
  have b6 := nc.1.1
  rw [e]
  congr 1
  refine bt_ext (fun j hj => ?_)
  rw [q j hj]
  by_cases j6 : j < 6
  · rcases h.hb hg j6 with ⟨z, b, -⟩ | ⟨z, b, -⟩ | ⟨z, b, m, -⟩
    · rw [z, b, decide_eq_true (show (0 : Int32) < 2 by decide), Bool.not_true, Bool.and_false]
    · rw [z, b, decide_eq_true (show (1 : Int32) < 2 by decide), Bool.not_true, Bool.and_false]
    · have := (n.mlt nc m).1
      rw [z, b, decide_eq_false (show ¬ (2 : Int32) < 2 by decide), decide_eq_true this]; rfl
  · rw [decide_eq_false (by omega), Bool.false_and, h.2.2.1 j (by omega) hj]
theorem NET.m63 {μ ξ : gM} (n : NET μ ξ) {g : Nat} (hg : g < 5) {j : Nat} (hj : 6 ≤ j) : bt (ξ 269 (48 + g)) j = false := by
  obtain ⟨-, b1, b2⟩ := n.2.1 g hg
  exact bt_small (K := 6) b1 (by have : ((2 ^ 6 : Nat) : Int) = 64 := rfl; omega) hj
theorem mAlive {s g : Nat} {lo : Nat → Int} {μ ξ : gM} (n : NET μ ξ) (h : GRP s g no lo μ ξ) (hg : g < 5) : fX12_bitsOf (nI g) 1 ξ = some (ξ 269 (48 + g) &&& ξ 272 1) := by
  obtain ⟨cn, cl, cg, ct, nc⟩ := n.nc
  obtain ⟨x, e, q⟩ := mBits (lim := 1) hg nc.1.1 nc.2.2.1
  have b6 := nc.1.1
  rw [e]
  congr 1
  refine bt_ext (fun j hj => ?_)
  rw [q j hj, bt_and]
  by_cases j6 : j < 6
  · rcases h.hb hg j6 with ⟨z, -, b⟩ | ⟨z, -, m, u⟩ | ⟨z, -, m, u⟩
    · rw [z, b, decide_eq_true (show (0 : Int32) < 1 by decide), Bool.not_true, Bool.and_false]
    · have := (n.mlt nc m).1
      rw [z, m.2.2, u, decide_eq_false (show ¬ (1 : Int32) < 1 by decide), decide_eq_true this]; rfl
    · have := (n.mlt nc m).1
      rw [z, m.2.2, u, decide_eq_false (show ¬ (2 : Int32) < 1 by decide), decide_eq_true this]; rfl
  · rw [decide_eq_false (by omega), Bool.false_and, n.m63 hg (by omega), Bool.false_and]
/-- nobody holds it though one is up; more than one hold it -/
def orp (M U H : Int32) : Int32 := if M &&& U = 0 then 0 else if H = 0 then 1 else 0
def dbl (P H : Int32) : Int32 := if (1 : Int32) < pc (H &&& P) then 1 else if pc (H &&& (P ^^^ (-1 : Int32))) ≤ 1 then 0 else 1
theorem orp01 (M U H : Int32) : orp M U H = 0 ∨ orp M U H = 1 := by
  unfold orp
  split
  · exact Or.inl rfl
  · split
    · exact Or.inr rfl
    · exact Or.inl rfl
theorem dbl01 (P H : Int32) : dbl P H = 0 ∨ dbl P H = 1 := by
  unfold dbl
  split
  · exact Or.inr rfl
  · split
    · exact Or.inl rfl
    · exact Or.inr rfl
theorem mOrphan {s g : Nat} {lo : Nat → Int} {μ ξ : gM} (n : NET μ ξ) (h : GRP s g no lo μ ξ) (hg : g < 5) : fX12_isOrphan (nI g) ξ = some (orp (ξ 269 (48 + g)) (ξ 272 1) (μ (s + 5) g)) := by
  unfold fX12_isOrphan orp
  rw [mAlive n h hg, zBd_some]
  by_cases c1 : ξ 269 (48 + g) &&& ξ 272 1 = 0
  · rw [if_pos c1, if_pos c1]
  · rw [if_neg c1, if_neg c1, mHeld n h hg, zBd_some]
    by_cases c2 : μ (s + 5) g = 0
    · rw [if_pos c2, if_pos c2]
    · rw [if_neg c2, if_neg c2]
/-- the holders of a group fit into six bits -/
theorem GRP.h63 {s g : Nat} {X : Nat → Prop} {lo : Nat → Int} {μ ξ : gM} (h : GRP s g X lo μ ξ) : 0 ≤ (μ (s + 5) g).toInt ∧ (μ (s + 5) g).toInt ≤ 63 := bt_63 h.2.2.1
theorem andX63 {x y : Int32} (h : 0 ≤ x.toInt ∧ x.toInt ≤ 63) : 0 ≤ (x &&& y).toInt ∧ (x &&& y).toInt ≤ 63 := bt_63 (fun k h1 h2 => by rw [bt_and, bt_small (K := 6) h.1 (by have : ((2 ^ 6 : Nat) : Int) = 64 := rfl; omega) h1, Bool.false_and])
theorem mDouble {s g : Nat} {lo : Nat → Int} {μ ξ : gM} (n : NET μ ξ) (h : GRP s g no lo μ ξ) (hg : g < 5) : fX12_isDouble (nI g) ξ = some (dbl (ξ 272 3) (μ (s + 5) g)) := by
  have b := h.h63
  have b1 := andX63 (y := ξ 272 3) b
  have b2 := andX63 (y := ξ 272 3 ^^^ (-1 : Int32)) b
  unfold fX12_isDouble dbl
  rw [mHeld n h hg, zBd_some, pcM _ _ b1.1 b1.2, zBd_some, pcM _ _ b2.1 b2.2, zBd_some]
  split
  · rfl
  · split <;> rfl
theorem cDouble {s g : Nat} {μ : gM} (hg : g < 5) (b : 0 ≤ (μ (s + 5) g).toInt ∧ (μ (s + 5) g).toInt ≤ 63) : fX9_isDouble s (nI g) μ = some (dbl (μ s 3) (μ (s + 5) g)) := by
  have b1 := andX63 (y := μ s 3) b
  have b2 := andX63 (y := μ s 3 ^^^ (-1 : Int32)) b
  unfold fX9_isDouble dbl
  unfold zCk
  rw [if_pos (gI hg (by decide)), zLt_eq, nI_clamp (by omega), pcC _ _ b1.1 b1.2, zBd_some, pcC _ _ b2.1 b2.2, zBd_some]
  split
  · rfl
  · split <;> rfl
def inc (o n : Int32) : Int32 := if o = 0 then 0 else n
theorem dbl_0 (P : Int32) : dbl P 0 = 0 := by
  have e : ∀ x : Int32, (0 : Int32) &&& x = 0 := fun x => bt_ext (fun k _ => by rw [bt_and, bt_zero, Bool.false_and])
  unfold dbl
  rw [e, e]
  decide +kernel
/-- the class counts a group -/
theorem cTally {s g : Nat} {n : Int32} {μ : gM} (hg : g < 5) (b : 0 ≤ (μ (s + 5) g).toInt ∧ (μ (s + 5) g).toInt ≤ 63) : ∃ μ', fX10_tally s (nI g) n μ = some μ' ∧ (∀ a, a ≠ s + 6 → a ≠ s + 7 → μ' a = μ a) ∧ (∀ j, j ≠ g → μ' (s + 6) j = μ (s + 6) j ∧ μ' (s + 7) j = μ (s + 7) j) ∧ μ' (s + 6) g = μ (s + 6) g + inc (orp (μ 11 g) (μ s 1) (μ (s + 5) g)) n ∧ μ' (s + 7) g = μ (s + 7) g + inc (dbl (μ s 3) (μ (s + 5) g)) n := by
  have gg : gIn (nI g) 5 = true := gI hg (by decide)
  have cgg : (nI g).toNatClampNeg = g := nI_clamp (by omega)
  unfold fX10_tally
  unfold zCk
  rw [if_pos gg, cgg]
  by_cases c0 : μ (s + 5) g = 0
  · rw [if_pos c0, if_pos gg, c0, dbl_0]
    unfold fX10_tally_n37
    unfold zCk
    rw [if_pos gg, if_pos gg, if_pos gg, cgg]
    have fin : ∀ v : Int32, v = inc (orp (μ 11 g) (μ s 1) 0) n → ∃ μ', some (gUp μ (s + 6) g (μ (s + 6) g + v)) = some μ' ∧ (∀ a, a ≠ s + 6 → a ≠ s + 7 → μ' a = μ a) ∧ (∀ j, j ≠ g → μ' (s + 6) j = μ (s + 6) j ∧ μ' (s + 7) j = μ (s + 7) j) ∧ μ' (s + 6) g = μ (s + 6) g + inc (orp (μ 11 g) (μ s 1) 0) n ∧ μ' (s + 7) g = μ (s + 7) g + inc 0 n := fun v hv => ⟨_, rfl, fun a h1 _ => zUp_ne _ h1, fun j hj => ⟨zUp_slot _ hj, by rw [zUp_ne _ (by omega)]⟩, by rw [zUp_same, hv], by rw [zUp_ne _ (by omega)]; unfold inc; rw [if_pos rfl, Int32.add_zero]⟩
    by_cases c1 : μ 11 g &&& μ s 1 = 0
    · rw [if_pos c1, if_pos rfl, zLt_eq]
      exact fin _ (by unfold inc orp; rw [if_pos c1, if_pos rfl])
    · rw [if_neg c1, if_neg one_n0, if_pos gg, zLt_eq]
      exact fin _ (by unfold inc orp; rw [if_neg c1, if_pos rfl, if_neg one_n0])
  · have o0 : orp (μ 11 g) (μ s 1) (μ (s + 5) g) = 0 := by
      unfold orp
      rw [if_neg c0]
      split <;> rfl
    rw [if_neg c0, cDouble hg b, zBd_some, o0]
    rcases dbl01 (μ s 3) (μ (s + 5) g) with e | e
    · rw [e, if_pos rfl]
      exact ⟨μ, rfl, fun _ _ _ => rfl, fun _ _ => ⟨rfl, rfl⟩, by unfold inc; rw [if_pos rfl, Int32.add_zero], by unfold inc; rw [if_pos rfl, Int32.add_zero]⟩
    · rw [e, if_neg one_n0, if_pos gg, if_pos gg, zLt_eq]
      exact ⟨_, rfl, fun a _ h2 => zUp_ne _ h2, fun j hj => ⟨by rw [zUp_ne _ (by omega)], zUp_slot _ hj⟩, by rw [zUp_ne _ (by omega)]; unfold inc; rw [if_pos rfl, Int32.add_zero], by rw [zUp_same]; unfold inc; rw [if_neg one_n0]⟩
/-! all groups go by -/
def CN (s g : Nat) (μ ξ : gM) : Prop := μ (s + 6) g = ξ 272 (130 + g) ∧ μ (s + 7) g = ξ 272 (135 + g)
/-- the class has counted the first k groups, the reference none -/
def CNT (s k : Nat) (μ ξ : gM) : Prop := ∀ j, j < 5 → (j < k → μ (s + 6) j = ξ 272 (130 + j) + orp (ξ 269 (48 + j)) (ξ 272 1) (μ (s + 5) j) ∧ μ (s + 7) j = ξ 272 (135 + j) + dbl (ξ 272 3) (μ (s + 5) j)) ∧ (k ≤ j → CN s j μ ξ)
/-- what a tick leaves: of the class, of the reference -/
def TF (s : Nat) (μ μ' : gM) : Prop := (∀ a, a < s ∨ a = s + 1 ∨ a = s + 2 ∨ s + 14 < a → μ' a = μ a) ∧ (∀ i, i ≠ 4 → μ' (s + 14) i = μ (s + 14) i)
def RF (ξ ξ' : gM) : Prop := (∀ a, a ≠ 267 → a ≠ 272 → a ≠ 275 → ξ' a = ξ a) ∧ (∀ i, i ≠ 22 → ξ' 267 i = ξ 267 i) ∧ ∀ i, i = 4 ∨ i = 8 ∨ (145 ≤ i ∧ i < 245) → ξ' 272 i = ξ 272 i
theorem TF.rf (s : Nat) (μ : gM) : TF s μ μ := ⟨fun _ _ => rfl, fun _ _ => rfl⟩
theorem TF.tr {s : Nat} {a b c : gM} (h : TF s a b) (k : TF s b c) : TF s a c := ⟨fun i hi => (k.1 i hi).trans (h.1 i hi), fun i hi => (k.2 i hi).trans (h.2 i hi)⟩
theorem RF.rf (ξ : gM) : RF ξ ξ := ⟨fun _ _ _ _ => rfl, fun _ _ => rfl, fun _ _ => rfl⟩
theorem RF.tr {a b c : gM} (h : RF a b) (k : RF b c) : RF a c := ⟨fun i h1 h2 h3 => (k.1 i h1 h2 h3).trans (h.1 i h1 h2 h3), fun i hi => (k.2.1 i hi).trans (h.2.1 i hi), fun i hi => (k.2.2 i hi).trans (h.2.2 i hi)⟩
theorem DG.tf {s g : Nat} {μ μ' : gM} (h : DG s g μ μ') : TF s μ μ' := ⟨fun a ha => h.1 a (by omega) (by omega) (by omega) (by omega) (by omega) (by omega) (by omega) (by omega), h.2.2.2.2⟩
theorem EG.rf' {g : Nat} {ξ ξ' : gM} (hg : g < 5) (h : EG g ξ ξ') : RF ξ ξ' := ⟨h.1, h.2.1.1, fun i hi => h.2.2 i (by omega) (by omega) (by omega) (by omega) (by omega) (by omega) (by omega) (by omega) (by omega)⟩
def GRS (s : Nat) (μ ξ : gM) : Prop := ∀ g, g < 5 → GRP s g no l0 μ ξ
theorem GRS.mv {s g : Nat} {μ ξ μ' ξ' : gM} (h : GRS s μ ξ) (hg : g < 5) (gr : GRP s g no l0 μ' ξ') (d : DG s g μ μ') (e : EG g ξ ξ') : GRS s μ' ξ' := fun g' hg' => by
  by_cases eg : g' = g
  · subst eg; exact gr
  · exact (h g' hg').fr hg hg' eg d e
theorem CNT.mv {s g k : Nat} {μ ξ μ' ξ' : gM} (h : CNT s k μ ξ) (hk : k ≤ g) (hg : g < 5) (d : DG s g μ μ') (e : EG g ξ ξ') : CNT s k μ' ξ' := fun j hj => by
  have d6 : μ' (s + 6) = μ (s + 6) := d.1 _ (by omega) (by omega) (by omega) (by omega) (by omega) (by omega) (by omega) (by omega)
  have d7 : μ' (s + 7) = μ (s + 7) := d.1 _ (by omega) (by omega) (by omega) (by omega) (by omega) (by omega) (by omega) (by omega)
  have e130 : ξ' 272 (130 + j) = ξ 272 (130 + j) := e.2.2 _ (by omega) (by omega) (by omega) (by omega) (by omega) (by omega) (by omega) (by omega) (by omega)
  have e135 : ξ' 272 (135 + j) = ξ 272 (135 + j) := e.2.2 _ (by omega) (by omega) (by omega) (by omega) (by omega) (by omega) (by omega) (by omega) (by omega)
  refine ⟨fun w => ?_, fun w => ?_⟩
  · rw [d6, d7, e130, e135, e.k9, e.k1, e.k3, (d.2.2.1 j (by omega)).1]
    exact (h j hj).1 w
  · unfold CN
    rw [d6, d7, e130, e135]
    exact (h j hj).2 w
