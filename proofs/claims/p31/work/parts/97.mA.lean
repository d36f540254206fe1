/-! bits of an int -/
def bt (x : Int32) (k : Nat) : Bool := x.toBitVec.getLsbD k
theorem sm31 : ∀ k : Nat, k < 32 → ((nI k &&& 31).toBitVec.smod 32).toNat = k := by decide +kernel
theorem bt_1 (x : Int32) : x &&& 1 = 1 ↔ bt x 0 = true := by
  rw [pk_and x 1 rfl]
  have e1 : (1 : Int32) = nI 1 := rfl
  have e2 : x.toBitVec.toNat % 2 ^ 1 < 2 := Nat.mod_lt _ (by decide)
  rw [e1, nI_eq (by omega) (by decide)]
  unfold bt BitVec.getLsbD
  rw [Nat.testBit_zero, decide_eq_true_iff]
theorem bt_0 (x : Int32) : x &&& 1 = 0 ↔ bt x 0 = false := by
  rw [pk_and x 1 rfl]
  have e1 : (0 : Int32) = nI 0 := rfl
  have e2 : x.toBitVec.toNat % 2 ^ 1 < 2 := Nat.mod_lt _ (by decide)
  rw [e1, nI_eq (by omega) (by decide)]
  unfold bt BitVec.getLsbD
  rw [Nat.testBit_zero, decide_eq_false_iff_not]
  omega
theorem bt_shr (x : Int32) {k : Nat} (hk : k < 32) : bt (x >>> (nI k &&& 31)) 0 = bt x k := by
  unfold bt
  show (x.toBitVec.sshiftRight ((nI k &&& 31).toBitVec.smod 32).toNat).getLsbD 0 = _
  rw [sm31 k hk, BitVec.getLsbD_sshiftRight]
  simp [hk]
theorem bitAt_iff {x : Int32} {k : Nat} (hk : k < 32) : bitAt x (nI k) ↔ bt x k = true := by
  unfold bitAt
  rw [bt_1, bt_shr x hk]
theorem bit1_iff {x : Int32} {k : Nat} (hk : k < 32) : ((x >>> (nI k &&& 31)) &&& (1 : Int32)) = (1 : Int32) ↔ bt x k = true := bitAt_iff hk
theorem bit0_iff {x : Int32} {k : Nat} (hk : k < 32) : ((x >>> (nI k &&& 31)) &&& (1 : Int32)) = 0 ↔ bt x k = false := by
  rw [bt_0, bt_shr x hk]
theorem bt_and (x y : Int32) (k : Nat) : bt (x &&& y) k = (bt x k && bt y k) := by
  unfold bt
  show (x.toBitVec &&& y.toBitVec).getLsbD k = _
  rw [BitVec.getLsbD_and]
theorem bt_or (x y : Int32) (k : Nat) : bt (x ||| y) k = (bt x k || bt y k) := by
  unfold bt
  show (x.toBitVec ||| y.toBitVec).getLsbD k = _
  rw [BitVec.getLsbD_or]
theorem bt_xor (x y : Int32) (k : Nat) : bt (x ^^^ y) k = (bt x k ^^ bt y k) := by
  unfold bt
  show (x.toBitVec ^^^ y.toBitVec).getLsbD k = _
  rw [BitVec.getLsbD_xor]
theorem bt_m1 : ∀ k : Nat, k < 32 → bt (-1) k = true := by decide +kernel
theorem bt_not (x : Int32) {k : Nat} (hk : k < 32) : bt (x ^^^ (-1 : Int32)) k = !bt x k := by
  rw [bt_xor, bt_m1 k hk, Bool.xor_true]
theorem bt_one : ∀ j : Nat, j < 32 → ∀ k : Nat, k < 32 → bt ((1 : Int32) <<< (nI j &&& 31)) k = decide (k = j) := by decide +kernel
theorem bt_zero (k : Nat) : bt 0 k = false := by
  unfold bt
  show (0#32).getLsbD k = false
  rw [BitVec.getLsbD_zero]
theorem bt_ext {x y : Int32} (h : ∀ k, k < 32 → bt x k = bt y k) : x = y := Int32.toBitVec_inj.mp (BitVec.eq_of_getLsbD_eq (fun i hi => h i hi))
theorem bt_z {x : Int32} : x = 0 ↔ ∀ k, k < 32 → bt x k = false := ⟨fun e k _ => by rw [e]; exact bt_zero k, fun h => bt_ext (fun k hk => by rw [h k hk, bt_zero])⟩
theorem bt_small {x : Int32} {K k : Nat} (h0 : 0 ≤ x.toInt) (h1 : x.toInt < (2 ^ K : Nat)) (hk : K ≤ k) : bt x k = false := by
  have e : x.toInt = x.toBitVec.toInt := rfl
  rw [e, BitVec.toInt_eq_toNat_cond] at h0 h1
  unfold bt BitVec.getLsbD
  have := x.toBitVec.isLt
  refine Nat.testBit_lt_two_pow (Nat.lt_of_lt_of_le ?_ (Nat.pow_le_pow_right (by decide) hk))
  split at h0 <;> split at h1 <;> omega
theorem bt_63 {x : Int32} (h : ∀ k, 6 ≤ k → k < 32 → bt x k = false) : 0 ≤ x.toInt ∧ x.toInt ≤ 63 := by
  have l : x.toBitVec.toNat < 2 ^ 6 := by
    refine Nat.lt_pow_two_of_testBit _ (fun i hi => ?_)
    by_cases c : i < 32
    · exact h i hi c
    · exact BitVec.getLsbD_of_ge x.toBitVec i (by omega)
  have e : x.toInt = x.toBitVec.toInt := rfl
  rw [e, BitVec.toInt_eq_toNat_cond]
  split <;> omega
/-! counting bits: both ways alike -/
theorem bits_ind {μ ν : gM} : ∀ (n : Nat) (y1 y2 : Int32), fX12_bits_l4 n y1 y2 μ = fX12_bits_l4 n y1 y2 ν := by
  intro n
  induction n with
  | zero => intro y1 y2; rfl
  | succ n ih =>
    intro y1 y2
    rw [fX12_bits_l4, fX12_bits_l4]
    simp only [zLt]
    rw [ih]
theorem bits_64 : ∀ n : Nat, n < 64 → fX12_bits (nI n) (fun _ _ => 0) = fJ6_bitCount_0f7a4 (nI n) (fun _ _ => 0) := by decide +kernel
theorem bits_64' : ∀ n : Nat, n < 64 → (fJ6_bitCount_0f7a4 (nI n) (fun _ _ => 0)).isSome = true := by decide +kernel
/-- how many bits stand in a small number -/
def pc (x : Int32) : Int32 := (fJ6_bitCount_0f7a4 x (fun _ _ => 0)).getD 0
theorem pcC (x : Int32) (μ : gM) (h0 : 0 ≤ x.toInt) (h1 : x.toInt ≤ 63) : fJ6_bitCount_0f7a4 x μ = some (pc x) := by
  obtain ⟨n, hn, e⟩ : ∃ n : Nat, n < 64 ∧ x = nI n := ⟨x.toInt.toNat, by omega, nI_of' (by omega)⟩
  have s := bits_64' n hn
  unfold pc
  rw [show fJ6_bitCount_0f7a4 x μ = fJ6_bitCount_0f7a4 x (fun _ _ => 0) from rfl, e]
  cases q : fJ6_bitCount_0f7a4 (nI n) (fun _ _ => 0) with
  | none => rw [q] at s; exact absurd s (by decide)
  | some v => rfl
theorem pcM (x : Int32) (ξ : gM) (h0 : 0 ≤ x.toInt) (h1 : x.toInt ≤ 63) : fX12_bits x ξ = some (pc x) := by
  obtain ⟨n, hn, e⟩ : ∃ n : Nat, n < 64 ∧ x = nI n := ⟨x.toInt.toNat, by omega, nI_of' (by omega)⟩
  rw [show fX12_bits x ξ = fX12_bits x (fun _ _ => 0) from bits_ind _ _ _, ← pcC x (fun _ _ => 0) h0 h1, e]
  exact bits_64 n hn
/-! a member's word now -/
def wvs (o : Nat → Int32) (cuts : Int32) (g k : Nat) : Nat → Nat → Int32 → Int32
  | 0, _, v => v
  | n + 1, t, v => wvs o cuts g k n (t + 1) (if o (113 + 4 * t) = nI g ∧ o (113 + 4 * t + 1) = nI k ∧ ((cuts >>> (o (113 + 4 * t + 2) &&& 31)) &&& (1 : Int32)) = (1 : Int32) then v - o (113 + 4 * t + 3) else v)
def wv1 (v : Int32) : Int32 := if (1 : Int32) ≤ v then v else 1
def wv (o : Nat → Int32) (cuts told : Int32) (g k : Nat) : Int32 := if told = 255 then 255 else wv1 (wvs o cuts g k (o 3).toInt.toNat 0 told)
theorem mGreater (v : Int32) (ξ : gM) : fX12_greater 1 v ξ = some (wv1 v) := by
  unfold fX12_greater wv1
  by_cases c : (1 : Int32) ≤ v
  · rw [if_pos c, if_pos c]
  · rw [if_neg c, if_neg c]
theorem mWord_l {ξ : gM} {g k c : Nat} (hg : g < 5) (hk : k < 6) (h3 : ξ 269 3 = nI c) (hc : c ≤ 24) : ∀ (m t : Nat) (y v : Int32), y.toInt = t → t ≤ c → c < t + m → fX12_wordOf_l26 m (nI g) (nI k) v y ξ = some (wv1 (wvs (ξ 269) (ξ 272 2) g k (c - t) t v)) := by
  intro m
  induction m with
  | zero =>
    intro t y v hy ht gm
    exact absurd gm (by omega)
  | succ m ih =>
    intro t y v hy ht gm
    have tc : (nI c).toInt = c := nI_toInt (by omega)
    rw [fX12_wordOf_l26, h3]
    by_cases c1 : nI c ≤ y
    · have c' := Int32.le_iff_toInt_le.mp c1
      rw [if_pos c1, mGreater, zBd_some, show c - t = 0 by omega]
      rfl
    · have c' : ¬ (nI c).toInt ≤ y.toInt := fun w => c1 (Int32.le_iff_toInt_le.mpr w)
      rw [if_neg c1]
      have i0 : ((113 : Int32) + (4 : Int32) * y).toInt = ((113 + 4 * t : Nat) : Int) := (iA (iL (113) (113) rfl) (iM (iL (4) (4) rfl) hy (by omega) (by omega)) (by omega) (by omega)).trans (by omega)
      have i1 : ((113 : Int32) + (4 : Int32) * y + 1).toInt = ((113 + 4 * t + 1 : Nat) : Int) := (iA i0 (iL (1) (1) rfl) (by omega) (by omega)).trans (by omega)
      have i2 : ((113 : Int32) + (4 : Int32) * y + 2).toInt = ((113 + 4 * t + 2 : Nat) : Int) := (iA i0 (iL (2) (2) rfl) (by omega) (by omega)).trans (by omega)
      have i3 : ((113 : Int32) + (4 : Int32) * y + 3).toInt = ((113 + 4 * t + 3 : Nat) : Int) := (iA i0 (iL (3) (3) rfl) (by omega) (by omega)).trans (by omega)
      have nx : (y + 1).toInt = ((t + 1 : Nat) : Int) := (iA hy (iL (1) (1) rfl) (by omega) (by omega)).trans (by omega)
      have go := fun v => ih (t + 1) (y + 1) v nx (by omega) (by omega)
      rw [show c - t = (c - (t + 1)) + 1 by omega, wvs]
      simp only [zCk, zLt]
      rw [if_pos (zIn i0 (by omega) (by omega)), if_pos (zIn i1 (by omega) (by omega)), if_pos (zIn i2 (by omega) (by omega)), if_pos (zIn i3 (by omega) (by omega)), cl_of i0, cl_of i1, cl_of i2, cl_of i3]
      unfold fX12_isOf
      by_cases e0 : ξ 269 (113 + 4 * t) = nI g
      · rw [if_pos e0]
        by_cases e1 : ξ 269 (113 + 4 * t + 1) = nI k
        · rw [if_pos e1]
          by_cases e2 : ((ξ 272 2 >>> (ξ 269 (113 + 4 * t + 2) &&& 31)) &&& (1 : Int32)) = (1 : Int32)
          · rw [if_pos e2, zBd_some, if_neg one_n0, if_pos ⟨e0, e1, e2⟩]
            exact go _
          · rw [if_neg e2, zBd_some, if_pos rfl, if_neg (fun w => e2 w.2.2)]
            exact go _
        · rw [if_neg e1, if_neg (fun w => e1 w.2.1)]
          exact go _
      · rw [if_neg e0, if_neg (fun w => e0 w.1)]
        exact go _
theorem of6 {g k : Nat} (hg : g < 5) (hk : k < 6) : (6 : Int32) * nI g + nI k = nI (6 * g + k) := by
  rw [show (6 : Int32) = nI 6 from rfl, pk_mul, nI_add]
theorem o6f {g k : Nat} (hg : g < 5) (hk : k < 6) : nI g * (6 : Int32) + nI k = nI (6 * g + k) := by
  rw [show (6 : Int32) = nI 6 from rfl, pk_mul, nI_add, Nat.mul_comm]
theorem mOf {g k : Nat} (ξ : gM) (hg : g < 5) (hk : k < 6) : fX12_of (nI g) (nI k) ξ = some (nI (6 * g + k)) := by
  unfold fX12_of
  rw [of6 hg hk]
theorem tN {m : Nat} (h : m < 100000) : (nI m).toInt = m := nI_toInt (by omega)
theorem ix {b m : Nat} (h : b + m < 100000) {x : Int32} (hx : x = nI b) : (x + nI m).toNatClampNeg = b + m := by
  rw [hx, nI_add, nI_clamp (by omega)]
theorem ig {b m N : Nat} (h : b + m < N) (hN : N ≤ 100000) {x : Int32} (hx : x = nI b) : gIn (x + nI m) N = true := by
  rw [hx, nI_add]
  exact zIn (tN (by omega)) (by omega) (by omega)
theorem mWord {ξ : gM} {g k c : Nat} (hg : g < 5) (hk : k < 6) (h3 : ξ 269 3 = nI c) (hc : c ≤ 24) : fX12_wordOf (nI g) (nI k) ξ = some (wv (ξ 269) (ξ 272 2) (ξ 272 (10 + (6 * g + k))) g k) := by
  unfold fX12_wordOf wv
  rw [mOf ξ hg hk, zBd_some]
  simp only [zCk, zLt]
  rw [if_pos (ig (x := 10) (b := 10) (by omega) (by decide) rfl), ix (x := 10) (b := 10) (by omega) rfl]
  by_cases e : ξ 272 (10 + (6 * g + k)) = 255
  · rw [if_pos e, if_pos e, e]
  · rw [if_neg e, if_neg e, mWord_l hg hk h3 hc 100000 0 0 _ rfl (by omega) (by omega), h3, tN (by omega)]
    rfl
