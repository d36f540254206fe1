/-! draws -/
theorem l31 {n : Nat} (h : n < 9223372036854775808) : lN n &&& (2147483647 : Int64) = lN (n % 2147483648) := by
  apply Int64.toBitVec_inj.mp
  apply BitVec.eq_of_toNat_eq
  have e1 : (lN n).toBitVec.toNat = n := by
    show (BitVec.ofNat 64 n).toNat = n
    rw [BitVec.toNat_ofNat, Nat.mod_eq_of_lt (by omega)]
  have e2 : (lN (n % 2147483648)).toBitVec.toNat = n % 2147483648 := by
    show (BitVec.ofNat 64 (n % 2147483648)).toNat = n % 2147483648
    rw [BitVec.toNat_ofNat, Nat.mod_eq_of_lt (by omega)]
  have e3 : (lN n &&& (2147483647 : Int64)).toBitVec = (lN n).toBitVec &&& (2147483647 : Int64).toBitVec := rfl
  have e4 : (2147483647 : Int64).toBitVec.toNat = 2 ^ 31 - 1 := by decide
  rw [e3, BitVec.toNat_and, e1, e2, e4, Nat.and_two_pow_sub_one_eq_mod]
theorem lgc {a b : Int64} : 0 ≤ lg_cmp a b ↔ b.toInt ≤ a.toInt := by
  have z : ((0 : Int32) ≤ 1) ∧ ((0 : Int32) ≤ 0) ∧ ¬ ((0 : Int32) ≤ -1) := by decide
  unfold lg_cmp
  by_cases h : a > b
  · rw [if_pos h]
    have h' := Int64.lt_iff_toInt_lt.mp h
    exact ⟨fun _ => by omega, fun _ => z.1⟩
  · rw [if_neg h]
    have h' : ¬ b.toInt < a.toInt := fun w => h (Int64.lt_iff_toInt_lt.mpr w)
    by_cases h2 : a = b
    · rw [if_pos h2, h2]
      exact ⟨fun _ => Int.le_refl _, fun _ => z.2.1⟩
    · rw [if_neg h2]
      have h5 : ¬ a.toInt = b.toInt := fun q => h2 (Int64.toInt_inj.mp q)
      exact ⟨fun w => absurd w z.2.2, fun w => absurd w (by omega)⟩
/-- the next draw, in longs: the class's way, the reference's -/
theorem draw1 {n q : Nat} {x : Int32} (hn : n < 2147483648) (en : x = nI n) (hq : (1103515245 * n + 12345) % 2147483648 = q) : (((1103515245 : Int64) * x.toInt64 + (12345 : Int64)) &&& (2147483647 : Int64)).toInt32 = nI q := by
  have e : (1103515245 : Int64) * x.toInt64 + (12345 : Int64) = lN (1103515245 * n + 12345) := by
    rw [en, nI_l hn, show (1103515245 : Int64) = lN 1103515245 from rfl, show (12345 : Int64) = lN 12345 from rfl, lN_mul, lN_add]
  rw [e, l31 (by omega), lN_i, hq]
theorem draw2 {n q : Nat} {x : Int32} (hn : n < 2147483648) (en : x = nI n) (hq : (1103515245 * n + 12345) % 2147483648 = q) : ((1103515245 : Int64) * x.toInt64 + (12345 : Int64)) - ((1103515245 : Int64) * x.toInt64 + (12345 : Int64)) / (2147483648 : Int64) * (2147483648 : Int64) = lN q := by
  have e : (1103515245 : Int64) * x.toInt64 + (12345 : Int64) = lN (1103515245 * n + 12345) := by
    rw [en, nI_l hn, show (1103515245 : Int64) = lN 1103515245 from rfl, show (12345 : Int64) = lN 12345 from rfl, lN_mul, lN_add]
  rw [e, show (2147483648 : Int64) = lN 2147483648 from rfl, pk_lRem (by omega) (by decide) (by decide), hq]
theorem pLost {s g : Nat} {F : Prop} {c : Int32} {X : Nat → Prop} {lo : Nat → Int} {μ ξ : gM} (hs : 34 ≤ s) (hg : g < 5) (h : CTX s F c μ ξ) (gr : GRP s g X lo μ ξ) : ∃ v μ' ξ', fX10_isLost s μ = some (v, μ') ∧ fX12_isLost ξ = some (v, ξ') ∧ (v = 0 ∨ v = 1) ∧ CTX s F c μ' ξ' ∧ GRP s g X lo μ' ξ' ∧ DG s g μ μ' ∧ EG g ξ ξ' ∧ ξ' 275 = ξ 275 ∧ μ' (s + 10) = μ (s + 10) := by
  obtain ⟨-, ⟨n0, n1, n2, n3, n4, n5, n6⟩, -, a1, a2, a3⟩ := id h
  unfold fX10_isLost fX12_isLost
  rw [n4]
  by_cases c4 : ξ 272 4 = 0
  · rw [if_pos c4, if_pos c4]
    exact ⟨0, μ, ξ, rfl, rfl, Or.inl rfl, h, gr, DG.rf _ _ _, EG.rf _ _, rfl, rfl⟩
  · rw [if_neg c4, if_neg c4, n5]
    obtain ⟨n, hn, en⟩ : ∃ n : Nat, n < 2 ^ 31 ∧ ξ 272 9 = nI n := ⟨(ξ 272 9).toInt.toNat, by have := i32b (ξ 272 9); omega, nI_of' (by omega)⟩
    generalize hq : (1103515245 * n + 12345) % 2147483648 = q
    have q31 : q < 2147483648 := by omega
    rw [zLt_eq, zLt_eq, draw1 (by omega) en hq, draw2 (by omega) en hq, lN_i, zLt_eq]
    have f5 : gUp μ s 5 (nI (q)) s 5 = nI (q) := zUp_same _ _ _ _
    have f4 : gUp μ s 5 (nI (q)) s 4 = ξ 272 4 := by rw [zUp_slot _ (by decide), n4]
    have g4 : gUp ξ 272 9 (nI (q)) 272 4 = ξ 272 4 := zUp_slot _ (by decide)
    have d1 : nI (q) / (64 : Int32) - nI (q) / (64 : Int32) / (100 : Int32) * (100 : Int32) = nI (q / 64 % 100) := by
      rw [show (64 : Int32) = nI 64 from rfl, pk_div q31 (by decide) (by decide), show (100 : Int32) = nI 100 from rfl, pk_rem (by omega) (by decide) (by decide)]
    have d2 : lN (q) / (64 : Int64) - lN (q) / (64 : Int64) / (100 : Int64) * (100 : Int64) = lN (q / 64 % 100) := by
      rw [show (64 : Int64) = lN 64 from rfl, pk_lDiv (by omega) (by decide) (by decide), show (100 : Int64) = lN 100 from rfl, pk_lRem (by omega) (by decide) (by decide)]
    have m100 : q / 64 % 100 < 100 := Nat.mod_lt _ (by decide)
    rw [f5, f4, g4, d1, d2]
    have cc : (0 ≤ lg_cmp (lN (q / 64 % 100)) (ξ 272 4).toInt64) ↔ ξ 272 4 ≤ nI (q / 64 % 100) := by
      rw [lgc, Int32.toInt_toInt64, pk_lT (by omega), Int32.le_iff_toInt_le, tN (by omega)]
    have fin : ∀ z : Int32, z = 0 ∨ z = 1 → ∃ v μ' ξ', fX10_isLost_n68 s z (gUp μ s 5 (nI (q))) = some (v, μ') ∧ fX12_isLost_n66 z (gUp ξ 272 9 (nI (q))) = some (v, ξ') ∧ (v = 0 ∨ v = 1) ∧ CTX s F c μ' ξ' ∧ GRP s g X lo μ' ξ' ∧ DG s g μ μ' ∧ EG g ξ ξ' ∧ ξ' 275 = ξ 275 ∧ μ' (s + 10) = μ (s + 10) := fun z hz => by
      have ea : fX10_isLost_n68 s z (gUp μ s 5 (nI (q))) = some (z, gUp (gUp μ s 5 (nI (q))) s 7 (μ s 7 + z)) := by
        unfold fX10_isLost_n68
        have s7 : gUp μ s 5 (nI (q)) s 7 = μ s 7 := zUp_slot _ (by decide)
        rcases hz with rfl | rfl
        · rw [if_pos rfl, s7]; rfl
        · rw [if_neg one_n0, s7]; rfl
      have eb : fX12_isLost_n66 z (gUp ξ 272 9 (nI (q))) = some (z, gUp (gUp ξ 272 9 (nI (q))) 272 6 (ξ 272 6 + z)) := by
        unfold fX12_isLost_n66 fX12_flag
        have s6 : gUp ξ 272 9 (nI (q)) 272 6 = ξ 272 6 := zUp_slot _ (by decide)
        rcases hz with rfl | rfl
        · rw [if_pos rfl, zBd_some, s6]; rfl
        · rw [if_neg one_n0, zBd_some, s6]; rfl
      have wc : ∀ a, a ≠ s → gUp (gUp μ s 5 (nI (q))) s 7 (μ s 7 + z) a = μ a := fun a ha => by rw [zUp_ne _ ha, zUp_ne _ ha]
      have wm : ∀ a, a ≠ 272 → gUp (gUp ξ 272 9 (nI (q))) 272 6 (ξ 272 6 + z) a = ξ a := fun a ha => by rw [zUp_ne _ ha, zUp_ne _ ha]
      have wi : ∀ i, i ≠ 6 → i ≠ 9 → gUp (gUp ξ 272 9 (nI (q))) 272 6 (ξ 272 6 + z) 272 i = ξ 272 i := fun i h1 h2 => by rw [zUp_slot _ h1, zUp_slot _ h2]
      have dg : DG s g μ (gUp (gUp μ s 5 (nI (q))) s 7 (μ s 7 + z)) := ⟨fun a h0 _ _ _ _ _ _ _ => wc a h0, fun i h5 _ h7 => by rw [zUp_slot _ h7, zUp_slot _ h5], fun j _ => ⟨by rw [wc _ (by omega)], by rw [wc _ (by omega)]⟩, fun j _ => ⟨by rw [wc _ (by omega)], by rw [wc _ (by omega)]⟩, fun i _ => by rw [wc _ (by omega)]⟩
      have eg : EG g ξ (gUp (gUp ξ 272 9 (nI (q))) 272 6 (ξ 272 6 + z)) := ⟨fun a _ h1 _ => wm a h1, ⟨fun i _ => by rw [wm 267 (by decide)], fun w => absurd w c4⟩, fun i _ h1 h2 h3 h4 _ _ _ _ => wi i h2 h4⟩
      refine ⟨z, _, _, ea, eb, hz, h.mv hs hg dg eg ?_ ⟨?_, ?_, fun f => ?_⟩, gr.cg hg (fun a ha => wc a (by omega)) (wm 269 (by decide)) (fun i hi => wi i (by omega) (by omega)), dg, eg, wm 275 (by decide), wc _ (by omega)⟩
      · rw [zUp_slot _ (by decide), zUp_same, zUp_slot _ (by decide), zUp_same, nI_toInt q31]
        exact ⟨rfl, by omega⟩
      · rw [wc _ (by omega)]; exact a1
      · rw [wi 7 (by decide) (by decide)]; exact a2
      · obtain ⟨f1, f2, f3, f4⟩ := a3 f
        refine ⟨f1.cg (wc _ (by omega)) (wc _ (by omega)) (wi 7 (by decide) (by decide)) (fun i hi => wi i (by omega) (by omega)), ?_, ?_, ?_⟩
        · rw [zUp_slot _ (by decide), zUp_slot _ (by decide), wi 5 (by decide) (by decide)]; exact f2
        · rw [zUp_same, zUp_same, f3]
        · rw [wc _ (by omega), wm 267 (by decide)]; exact f4
    by_cases cl : ξ 272 4 ≤ nI (q / 64 % 100)
    · rw [if_pos cl, if_pos (cc.mpr cl)]; exact fin 0 (Or.inl rfl)
    · rw [if_neg cl, if_neg (fun w => cl (cc.mp w))]; exact fin 1 (Or.inr rfl)
/-! a letter is read -/
def sg (a b f k : Int32) : Int32 := if b < a then 1 else if a = b then (if f ≤ k then 0 else 1) else 0
theorem sg01 (a b f k : Int32) : sg a b f k = 0 ∨ sg a b f k = 1 := by
  unfold sg
  split
  · exact Or.inr rfl
  · split
    · split
      · exact Or.inl rfl
      · exact Or.inr rfl
    · exact Or.inl rfl
theorem mStr (a b f k : Int32) (ξ : gM) : fX12_isStronger a f b k ξ = some (sg a b f k) := by
  unfold fX12_isStronger sg
  split
  · rfl
  · split
    · split <;> rfl
    · rfl
theorem cRL {s g f k : Nat} {μ : gM} (hg : g < 5) (hf : f < 6) (hk : k < 6) : fX10_readLetter s (nI g) (nI f) (nI k) μ = fX10_readLetter_n64 s (nI g) (nI k) (nI (6 * g + k)) (sg (μ (s + 10) (6 * g + f)) (μ (s + 10) (6 * g + k)) (nI f) (nI k)) μ := by
  unfold fX10_readLetter fX10_readLetter_n59 sg
  have gf : gIn (nI (6 * g + f)) 30 = true := gI (by omega) (by decide)
  have cf : (nI (6 * g + f)).toNatClampNeg = 6 * g + f := nI_clamp (by omega)
  have gk : gIn (nI (6 * g + k)) 30 = true := gI (by omega) (by decide)
  have ck : (nI (6 * g + k)).toNatClampNeg = 6 * g + k := nI_clamp (by omega)
  simp only [zLt, zCk, o6f hg hf, o6f hg hk, gf, cf, gk, ck, ↓reduceIte]
  split
  · rfl
  · split
    · split <;> rfl
    · rfl
theorem cHeld {s g k : Nat} {μ : gM} (hg : g < 5) (hk : k < 6) : fX9_isHeld s (nI g) (nI k) μ = some (if bt (μ (s + 5) g) k = true then 1 else 0) := by
  unfold fX9_isHeld
  simp only [zCk, gI (N := 5) hg (by decide), nI_clamp (show g < 2 ^ 31 by omega), ↓reduceIte]
  by_cases c : bt (μ (s + 5) g) k = true
  · rw [if_pos c, if_pos ((bit1_iff (by omega)).mpr c)]
  · rw [if_neg c, if_neg (fun w => c ((bit1_iff (by omega)).mp w))]
theorem mDoes {g k : Nat} {ξ : gM} (hg : g < 5) (hk : k < 6) : fX12_doesHold (nI g) (nI k) ξ = some (if ξ 272 (40 + (6 * g + k)) = 2 then 1 else 0) := by
  unfold fX12_doesHold
  have i40 : (40 : Int32) + nI (6 * g + k) = nI (40 + (6 * g + k)) := nI_add 40 _
  have g40 : gIn (nI (40 + (6 * g + k))) 490 = true := gI (by omega) (by decide)
  have c40 : (nI (40 + (6 * g + k))).toNatClampNeg = 40 + (6 * g + k) := nI_clamp (by omega)
  simp only [zCk, mOf _ hg hk, zBd_some, i40, g40, c40, ↓reduceIte]
  split <;> rfl
theorem m1_iff (x : Int32) : x - 1 = -1 ↔ x = 0 := by
  constructor
  · intro h
    have := congrArg (· + 1) h
    simpa using this
  · intro h
    rw [h]; rfl
theorem p1m1 (x : Int32) : x + 1 - 1 = x := by simp
/-- the clock laid anew, no wish (the reference's way while a member waits) -/
theorem mN83 {g k c : Nat} {ξ : gM} (hg : g < 5) (hk : k < 6) (h3 : ξ 269 3 = nI c) (hc : c ≤ 24) : ∃ ξ', fX12_reads_n83 (nI g) (nI k) (nI (6 * g + k)) ξ = some ξ' ∧ WB3 g k (ξ 272 (40 + (6 * g + k))) (pvm ξ g k) 0 ξ ξ' := by
  unfold fX12_reads_n83
  have i70 : (70 : Int32) + nI (6 * g + k) = nI (70 + (6 * g + k)) := nI_add 70 _
  have i100 : (100 : Int32) + nI (6 * g + k) = nI (100 + (6 * g + k)) := nI_add 100 _
  have g70 : gIn (nI (70 + (6 * g + k))) 490 = true := gI (by omega) (by decide)
  have g100 : gIn (nI (100 + (6 * g + k))) 490 = true := gI (by omega) (by decide)
  have c70 : (nI (70 + (6 * g + k))).toNatClampNeg = 70 + (6 * g + k) := nI_clamp (by omega)
  have c100 : (nI (100 + (6 * g + k))).toNatClampNeg = 100 + (6 * g + k) := nI_clamp (by omega)
  simp only [zLt, zCk, i70, i100, g70, g100, c70, c100, ↓reduceIte]
  have e9 : gUp ξ 272 (100 + (6 * g + k)) 0 269 = ξ 269 := zUp_ne _ (by decide)
  rw [mPat hg hk (by rw [e9]; exact h3) hc, zBd_some, e9, zUp_slot _ (show 2 ≠ 100 + (6 * g + k) by omega), zUp_slot _ (show 10 + (6 * g + k) ≠ 100 + (6 * g + k) by omega)]
  refine ⟨_, rfl, fun a ha => by rw [zUp_ne _ ha, zUp_ne _ ha], fun i h1 h2 h3 => by rw [zUp_slot _ h2, zUp_slot _ h3], ?_, ?_, ?_⟩
  · rw [zUp_slot _ (by omega), zUp_slot _ (by omega)]
  · rw [zUp_same]; rfl
  · rw [zUp_slot _ (by omega), zUp_same]
/-- what stays of the words and of the letters that were sent -/
def KP (s : Nat) (μ ξ μ' ξ' : gM) : Prop := ξ' 275 = ξ 275 ∧ μ' (s + 10) = μ (s + 10) ∧ ξ' 272 1 = ξ 272 1 ∧ ξ' 269 = ξ 269
theorem GRP.all {s g : Nat} {X X' : Nat → Prop} {lo lo' : Nat → Int} {μ ξ : gM} (h : GRP s g X lo μ ξ) (hX : ∀ j, ¬ X' j → ¬ X j) (hlo : ∀ j, lo' j ≤ lo j) : GRP s g X' lo' μ ξ := ⟨fun k m hk => by
  obtain ⟨q1, q2, q3, q4, q5⟩ := h.1 k m (hX k hk)
  exact ⟨q1, q2, q3, fun w => by have := q4 w; have := hlo k; omega, q5⟩, h.2⟩
theorem GRP.low {s g : Nat} {X : Nat → Prop} {lo lo' : Nat → Int} {μ ξ : gM} (h : GRP s g X lo μ ξ) (hlo : ∀ j, mem (ξ 269) g j → lo' j ≤ lo j) : GRP s g X lo' μ ξ := ⟨fun k m hk => by
  obtain ⟨q1, q2, q3, q4, q5⟩ := h.1 k m hk
  exact ⟨q1, q2, q3, fun w => by have := q4 w; have := hlo k m; omega, q5⟩, h.2⟩
def no : Nat → Prop := fun _ => False
def l0 : Nat → Int := fun _ => 0
theorem DG.k10 {s g : Nat} {μ μ' : gM} (d : DG s g μ μ') : μ' (s + 10) = μ (s + 10) := d.1 _ (by omega) (by omega) (by omega) (by omega) (by omega) (by omega) (by omega) (by omega)
theorem EG.k1 {g : Nat} {ξ ξ' : gM} (e : EG g ξ ξ') : ξ' 272 1 = ξ 272 1 := e.2.2 1 (by omega) (by omega) (by omega) (by omega) (by omega) (by omega) (by omega) (by omega) (by omega)
theorem EG.k9 {g : Nat} {ξ ξ' : gM} (e : EG g ξ ξ') : ξ' 269 = ξ 269 := e.1 269 (by decide) (by decide) (by decide)
theorem KP.of {s g : Nat} {μ ξ μ' ξ' : gM} (d : DG s g μ μ') (e : EG g ξ ξ') (h : ξ' 275 = ξ 275) : KP s μ ξ μ' ξ' := ⟨h, d.k10, e.k1, e.k9⟩
theorem KP.tr {s : Nat} {μ ξ μ' ξ' μ'' ξ'' : gM} (h : KP s μ ξ μ' ξ') (k : KP s μ' ξ' μ'' ξ'') : KP s μ ξ μ'' ξ'' := ⟨k.1.trans h.1, k.2.1.trans h.2.1, k.2.2.1.trans h.2.2.1, k.2.2.2.trans h.2.2.2⟩
/-- the outcome of an act at a group, in both -/
def OUT (s g : Nat) (F : Prop) (c : Int32) (μ ξ μ' ξ' : gM) : Prop := CTX s F c μ' ξ' ∧ GRP s g no l0 μ' ξ' ∧ DG s g μ μ' ∧ EG g ξ ξ' ∧ ξ' 275 = ξ 275
theorem OUT.kp {s g : Nat} {F : Prop} {c : Int32} {μ ξ μ' ξ' : gM} (h : OUT s g F c μ ξ μ' ξ') : KP s μ ξ μ' ξ' := KP.of h.2.2.1 h.2.2.2.1 h.2.2.2.2
theorem OUT.tr {s g : Nat} {F : Prop} {c : Int32} {μ ξ μ' ξ' μ'' ξ'' : gM} (h : OUT s g F c μ ξ μ' ξ') (k : OUT s g F c μ' ξ' μ'' ξ'') : OUT s g F c μ ξ μ'' ξ'' := ⟨k.1, k.2.1, h.2.2.1.tr k.2.2.1, h.2.2.2.1.tr k.2.2.2.1, k.2.2.2.2.trans h.2.2.2.2⟩
/-- behind the wish: the delay is over, or the clock is laid anew -/
theorem pDelay {s g k : Nat} {F : Prop} {c : Int32} {μ ξ : gM} (hs : 34 ≤ s) (h : CTX s F c μ ξ) (gr : GRP s g no l0 μ ξ) (m : mem (ξ 269) g k) (up : bt (ξ 272 1) k = true) (nh : bt (μ (s + 5) g) k = false) (h40 : ξ 272 (40 + (6 * g + k)) = 1) : ∃ μ' ξ', fX10_readLetter_n155 s (nI g) (nI k) (nI (6 * g + k)) μ = some μ' ∧ fX12_reads_n142 (nI g) (nI k) (nI (6 * g + k)) ξ = some ξ' ∧ OUT s g F c μ ξ μ' ξ' := by
  have hg := m.1
  have hk := m.2.1
  obtain ⟨cn, cl, cg, ct, nc⟩ := h.1.nc
  obtain ⟨lk, lg⟩ := h.1.mlt nc m
  obtain ⟨g7, g8, -, -, -⟩ := h.1.gr nc lg
  obtain ⟨p1, p2, p3⟩ := h.pat m
  obtain ⟨q1, q2, q3, -, -⟩ := gr.1 k m id
  have n0 := h.2.1.1
  unfold fX10_readLetter_n155 fX12_reads_n142
  have gg : gIn (nI g) 5 = true := gI hg (by decide)
  have cgg : (nI g).toNatClampNeg = g := nI_clamp (by omega)
  have gm : gIn (nI (6 * g + k)) 30 = true := gI (by omega) (by decide)
  have cm : (nI (6 * g + k)).toNatClampNeg = 6 * g + k := nI_clamp (by omega)
  have i33 : (33 : Int32) + nI g = nI (33 + g) := nI_add 33 _
  have g33 : gIn (nI (33 + g)) 209 = true := gI (by omega) (by decide)
  have c33 : (nI (33 + g)).toNatClampNeg = 33 + g := nI_clamp (by omega)
  have i70 : (70 : Int32) + nI (6 * g + k) = nI (70 + (6 * g + k)) := nI_add 70 _
  have i100 : (100 : Int32) + nI (6 * g + k) = nI (100 + (6 * g + k)) := nI_add 100 _
  have g70 : gIn (nI (70 + (6 * g + k))) 490 = true := gI (by omega) (by decide)
  have g100 : gIn (nI (100 + (6 * g + k))) 490 = true := gI (by omega) (by decide)
  have c70 : (nI (70 + (6 * g + k))).toNatClampNeg = 70 + (6 * g + k) := nI_clamp (by omega)
  have c100 : (nI (100 + (6 * g + k))).toNatClampNeg = 100 + (6 * g + k) := nI_clamp (by omega)
  simp only [zLt, zCk, gg, cgg, gm, cm, i33, g33, c33, i70, i100, g70, g100, c70, c100, cPat hg, mPat hg hk nc.2.2.2.2.2 nc.1.2.2.2, zBd_some, ↓reduceIte]
  rw [n0, q2, g8, p1]
  by_cases cd : ξ 272 0 - (ξ 272 (100 + (6 * g + k)) - 1) < ξ 269 (33 + g)
  · rw [if_pos cd, if_pos cd]
    have ps := pSet (lo' := l0) (μ' := gUp μ (s + 12) (6 * g + k) (pvm ξ g k)) (ξ' := gUp ξ 272 (70 + (6 * g + k)) (pvm ξ g k)) hs h gr m up nh (fun a h1 _ => zUp_ne _ h1) (fun j hj => ⟨zUp_slot _ hj, by rw [zUp_ne _ (by omega)]⟩) (fun a ha => zUp_ne _ ha) (fun i _ h2 _ => zUp_slot _ h2) (by rw [zUp_slot _ (by omega)]; exact h40) (by rw [zUp_same, zUp_same]) (by rw [zUp_ne _ (by omega), zUp_slot _ (by omega)]; exact q2) (by rw [zUp_same]; omega) (fun _ _ => Int.le_refl _) (by rw [zUp_same]; unfold l0; omega)
    exact ⟨_, _, rfl, rfl, ps.1, ps.2.1.all (fun j _ w => w.1) (fun _ => Int.le_refl _), ps.2.2.1, ps.2.2.2, zUp_ne _ (by decide)⟩
  · rw [if_neg cd, if_neg cd]
    obtain ⟨μ', ξ', e1, e2, hq, hb, c1, c2⟩ := pHold hs h gr m up (Int.le_refl _)
    rw [e1, e2, zBd_some, zBd_some]
    exact ⟨μ', ξ', rfl, rfl, c1, c2.all (fun j _ w => w.1) (fun _ => Int.le_refl _), hq.dg hk, hb.eg hk, hb.1 275 (by decide) (by decide)⟩
/-- it wishes, from now on or from before -/
theorem pWish {s g k : Nat} {F : Prop} {c : Int32} {μ ξ : gM} (hs : 34 ≤ s) (h : CTX s F c μ ξ) (gr : GRP s g no l0 μ ξ) (m : mem (ξ 269) g k) (up : bt (ξ 272 1) k = true) (nh : bt (μ (s + 5) g) k = false) (h40 : ξ 272 (40 + (6 * g + k)) = 1) : ∃ μ' ξ', (if μ (s + 13) (6 * g + k) = (-1 : Int32) then zLt (gUp μ (s + 13) (6 * g + k) (μ s 0)) (fun μ18 => (fX10_readLetter_n155 s (nI g) (nI k) (nI (6 * g + k)) μ18)) else (fX10_readLetter_n155 s (nI g) (nI k) (nI (6 * g + k)) μ)) = some μ' ∧ (if ξ 272 (100 + (6 * g + k)) = 0 then zLt (gUp ξ 272 (100 + (6 * g + k)) (ξ 272 0 + (1 : Int32))) (fun μ21 => (fX12_reads_n142 (nI g) (nI k) (nI (6 * g + k)) μ21)) else (fX12_reads_n142 (nI g) (nI k) (nI (6 * g + k)) ξ)) = some ξ' ∧ OUT s g F c μ ξ μ' ξ' := by
  have hg := m.1
  have hk := m.2.1
  obtain ⟨q1, q2, q3, -, -⟩ := gr.1 k m id
  have n0 := h.2.1.1
  by_cases cw : ξ 272 (100 + (6 * g + k)) = 0
  · have e : μ (s + 13) (6 * g + k) = -1 := by rw [q2, cw]; rfl
    rw [if_pos e, if_pos cw, zLt_eq, zLt_eq, n0]
    have ps := pSet (lo' := l0) (μ' := gUp μ (s + 13) (6 * g + k) (ξ 272 0)) (ξ' := gUp ξ 272 (100 + (6 * g + k)) (ξ 272 0 + 1)) hs h gr m up nh (fun a _ h2 => zUp_ne _ h2) (fun j hj => ⟨by rw [zUp_ne _ (by omega)], zUp_slot _ hj⟩) (fun a ha => zUp_ne _ ha) (fun i _ _ h3 => zUp_slot _ h3) (by rw [zUp_slot _ (by omega)]; exact h40) (by rw [zUp_ne _ (by omega), zUp_slot _ (by omega)]; exact q1) (by rw [zUp_same, zUp_same, p1m1]) (by rw [zUp_slot _ (by omega)]; exact q3) (fun _ _ => Int.le_refl _) (by rw [zUp_slot _ (by omega)]; unfold l0; exact q3.1)
    have o1 : OUT s g F c μ ξ (gUp μ (s + 13) (6 * g + k) (ξ 272 0)) (gUp ξ 272 (100 + (6 * g + k)) (ξ 272 0 + 1)) := ⟨ps.1, ps.2.1.all (fun j _ w => w.1) (fun _ => Int.le_refl _), ps.2.2.1, ps.2.2.2, zUp_ne _ (by decide)⟩
    obtain ⟨μ', ξ', e1, e2, o2⟩ := pDelay (k := k) hs o1.1 o1.2.1 (by rw [o1.kp.2.2.2]; exact m) (by rw [o1.kp.2.2.1]; exact up) (by rw [zUp_ne _ (by omega)]; exact nh) (by rw [zUp_slot _ (by omega)]; exact h40)
    exact ⟨μ', ξ', e1, e2, o1.tr o2⟩
  · have e : ¬ μ (s + 13) (6 * g + k) = -1 := fun w => cw (by rw [q2] at w; exact (m1_iff _).mp w)
    rw [if_neg e, if_neg cw]
    exact pDelay hs h gr m up nh h40
theorem pRead {s g f k : Nat} {F : Prop} {c : Int32} {μ ξ : gM} (hs : 34 ≤ s) (h : CTX s F c μ ξ) (gr : GRP s g no l0 μ ξ) (hf : f < 6) (m : mem (ξ 269) g k) (up : bt (ξ 272 1) k = true) (se : ξ 275 f = μ (s + 10) (6 * g + f)) : ∃ μ' ξ', fX10_readLetter s (nI g) (nI f) (nI k) μ = some μ' ∧ fX12_reads (nI g) (nI f) (nI k) ξ = some ξ' ∧ OUT s g F c μ ξ μ' ξ' := by
  have hg := m.1
  have hk := m.2.1
  obtain ⟨cn, cl, cg, ct, nc⟩ := h.1.nc
  obtain ⟨lk, lg⟩ := h.1.mlt nc m
  obtain ⟨-, -, g9, -, -⟩ := h.1.gr nc lg
  obtain ⟨w1, w2, w3, w4⟩ := h.2.2.1 g k m
  obtain ⟨q1, q2, q3, -, q5⟩ := gr.1 k m id
  have n0 := h.2.1.1
  have gf : gIn (nI f) 6 = true := gI hf (by decide)
  have cf : (nI f).toNatClampNeg = f := nI_clamp (by omega)
  rw [cRL hg hf hk]
  unfold fX12_reads fX10_readLetter_n64
  rw [mOf _ hg hk, zBd_some, mWord hg hk nc.2.2.2.2.2 nc.1.2.2.2, cHeld hg hk, zBd_some]
  simp only [zCk, gf, cf, zBd_some, ↓reduceIte]
  rw [se, ← w3, mStr, zBd_some, mDoes hg hk, zBd_some]
  have hz := sg01 (μ (s + 10) (6 * g + f)) (μ (s + 10) (6 * g + k)) (nI f) (nI k)
  generalize sg (μ (s + 10) (6 * g + f)) (μ (s + 10) (6 * g + k)) (nI f) (nI k) = z at hz ⊢
  have id' : OUT s g F c μ ξ μ ξ := ⟨h, gr, DG.rf _ _ _, EG.rf _ _, rfl⟩
  rcases q5 with ⟨u, -⟩ | ⟨-, ⟨nh, h40⟩ | ⟨hh, h40⟩⟩
  · rw [up] at u; exact absurd u (by decide)
  · -- it waits
    have two : ¬ (1 : Int32) = 2 := by decide
    rw [nh, if_neg (show ¬ (false = true) by decide), if_pos rfl, h40, if_neg two, if_pos rfl]
    unfold fX10_readLetter_n88
    rw [if_pos rfl]
    unfold fX10_readLetter_n99 fX10_readLetter_n117
    have again : ∃ μ' ξ', zBd (fX10_await s (nI g) (nI k) μ) (fun μ6 => (some μ6)) = some μ' ∧ fX12_reads_n83 (nI g) (nI k) (nI (6 * g + k)) ξ = some ξ' ∧ OUT s g F c μ ξ μ' ξ' := by
      obtain ⟨p1, p2, p3⟩ := h.pat m
      obtain ⟨μ', e1, q⟩ := cAwait (s := s) (μ := μ) hg hk
      obtain ⟨ξ', e2, r1, r2, r3, r4, r5⟩ := mN83 (ξ := ξ) hg hk nc.2.2.2.2.2 nc.1.2.2.2
      rw [p1] at q
      obtain ⟨u1, u2, u3⟩ := q.f
      have ps := pSet (lo' := l0) hs h gr m up nh q.1 u1 r1 r2 (r3.trans h40) (u2.trans r4.symm) (by rw [u3, r5]; rfl) (by rw [r4]; omega) (fun _ _ => Int.le_refl _) (by rw [r4]; unfold l0; omega)
      rw [e1, e2, zBd_some]
      exact ⟨μ', ξ', rfl, rfl, ps.1, ps.2.1.all (fun j _ w => w.1) (fun _ => Int.le_refl _), ps.2.2.1, ps.2.2.2, r1 275 (by decide)⟩
    rcases hz with rfl | rfl
    · rw [if_pos rfl, if_pos rfl]
      have gg : gIn (nI g) 5 = true := gI hg (by decide)
      have cgg : (nI g).toNatClampNeg = g := nI_clamp (by omega)
      have gm : gIn (nI (6 * g + k)) 30 = true := gI (by omega) (by decide)
      have cm : (nI (6 * g + k)).toNatClampNeg = 6 * g + k := nI_clamp (by omega)
      have i38 : (38 : Int32) + nI g = nI (38 + g) := nI_add 38 _
      have g38 : gIn (nI (38 + g)) 209 = true := gI (by omega) (by decide)
      have c38 : (nI (38 + g)).toNatClampNeg = 38 + g := nI_clamp (by omega)
      have i100 : (100 : Int32) + nI (6 * g + k) = nI (100 + (6 * g + k)) := nI_add 100 _
      have g100 : gIn (nI (100 + (6 * g + k))) 490 = true := gI (by omega) (by decide)
      have c100 : (nI (100 + (6 * g + k))).toNatClampNeg = 100 + (6 * g + k) := nI_clamp (by omega)
      simp only [gg, cgg, gm, cm, i38, g38, c38, i100, g100, c100, ↓reduceIte]
      rw [g9]
      by_cases ck : ξ 269 (38 + g) = 1
      · rw [if_pos ck, if_pos ck]; exact again
      · rw [if_neg ck, if_neg ck]
        exact pWish hs h gr m up nh h40
    · rw [if_neg one_n0, if_neg one_n0]; exact again
  · -- it holds
    rw [hh, if_pos rfl, if_neg one_n0, h40, if_pos rfl, if_neg one_n0]
    rcases hz with rfl | rfl
    · rw [if_pos rfl, if_pos rfl]
      exact ⟨μ, ξ, rfl, rfl, id'⟩
    · rw [if_neg one_n0, if_neg one_n0]
      unfold fX10_readLetter_n88
      rw [if_neg one_n0]
      unfold fX10_readLetter_n99 fX10_readLetter_n117
      obtain ⟨μ1, μ', ξ1, ξ', e1, e2, e3, e4, c1, c2, d, e, x5⟩ := pGive (lo' := l0) hs h gr m up (fun _ _ => Int.le_refl _) (by unfold l0; omega)
      rw [zLt_eq, e1, zBd_some, if_neg one_n0, e2, zBd_some, e3, zBd_some, e4, zBd_some]
      exact ⟨μ', ξ', rfl, rfl, c1, c2.all (fun j _ w => w.1) (fun _ => Int.le_refl _), d, e, x5⟩
