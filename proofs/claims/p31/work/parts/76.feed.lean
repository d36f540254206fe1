theorem gUp_at (μ : gM) (a i : Nat) (v : Int32) (b j : Nat) : gUp μ a i v b j = if b = a then (if j = i then v else μ a j) else μ b j := by
  unfold gUp va_up upd
  by_cases h : b = a
  · rw [if_pos h, if_pos h]
  · rw [if_neg h, if_neg h]
/-! feed: four bytes of a number, on both tapes -/
def gAp (μ : gM) (n : Nat) (x : Int32) : gM := gUp (gUp μ 2 n x) 1 2 (nI (n + 1))
def gPu (μ : gM) (n : Nat) (x : Int32) : gM := gUp (gUp μ 268 n x) 267 2 (nI (n + 1))
theorem gAp_len (μ : gM) (n : Nat) (x : Int32) : gAp μ n x 1 2 = nI (n + 1) := by simp [gAp, gUp_at]
theorem gPu_len (μ : gM) (n : Nat) (x : Int32) : gPu μ n x 267 2 = nI (n + 1) := by simp [gPu, gUp_at]
theorem gIn_nI {n N : Nat} (h : n < N) (hN : N < 2 ^ 31) : gIn (nI n) N = true := by
  have h1 := nI_clamp (n := n) (by omega)
  have h2 := nI_pos (n := n) (by omega)
  have h3 : ¬ N ≤ n := by omega
  simp [gIn, h1, h2, h3]
theorem ap_step {a y2 : Int32} {μ : gM} {n : Nat} (m : Nat) (hy : ¬ y2 < 0) (h : μ 1 2 = nI n) (hn : n < 1500) : fX7_append_l3 (m + 1) a y2 μ = fX7_append_l3 m a (y2 + -8) (gAp μ n ((a >>> (y2 &&& 31)) &&& 255)) := by
  have h1 : ¬ (1500 : Int32) ≤ nI n := nI_ge (a := n) (b := 1500) hn (by decide)
  have h2 := gIn_nI (n := n) (N := 1500) hn (by decide)
  have h3 := nI_clamp (n := n) (by omega)
  have h4 : ∀ x : Int32, gUp μ 2 n x 1 2 = nI n := by intro x; simp [gUp_at, h]
  rw [fX7_append_l3, if_neg hy, h, if_neg h1]
  simp only [h2, zCk, zLt, if_true, h3, h4]
  rw [nI_1]
  rfl
theorem append_c {a : Int32} {μ : gM} {n : Nat} (h : μ 1 2 = nI n) (hn : n + 4 ≤ 1500) : fX7_append a μ = some (gAp (gAp (gAp (gAp μ n ((a >>> (24 &&& 31)) &&& 255)) (n + 1) ((a >>> (16 &&& 31)) &&& 255)) (n + 2) ((a >>> (8 &&& 31)) &&& 255)) (n + 3) ((a >>> (0 &&& 31)) &&& 255)) := by
  show fX7_append_l3 (99995 + 1 + 1 + 1 + 1 + 1) a 24 μ = _
  rw [ap_step _ (by decide) h (by omega), ap_step _ (by decide) (gAp_len _ _ _) (by omega), ap_step _ (by decide) (gAp_len _ _ _) (by omega), ap_step _ (by decide) (gAp_len _ _ _) (by omega)]
  rw [fX7_append_l3, if_pos (by decide)]
  rfl
theorem pu_step {a y2 : Int32} {μ : gM} {n : Nat} (m : Nat) (hy : ¬ y2 < 0) (h : μ 267 2 = nI n) (hn : n < 1500) : fX12_puts_l3 (m + 1) a y2 μ = fX12_puts_l3 m a (y2 + -8) (gPu μ n ((a >>> (y2 &&& 31))).toInt8.toInt32) := by
  have h2 := gIn_nI (n := n) (N := 1500) hn (by decide)
  have h3 := nI_clamp (n := n) (by omega)
  have h4 : ∀ x : Int32, gUp μ 268 n x 267 2 = nI n := by intro x; simp [gUp_at, h]
  rw [fX12_puts_l3, if_neg hy, h]
  simp only [h2, zCk, zLt, if_true, h3, h4]
  rw [nI_1]
  rfl
theorem puts_c {a : Int32} {μ : gM} {n : Nat} (h : μ 267 2 = nI n) (hn : n + 4 ≤ 1500) : fX12_puts a μ = some (gPu (gPu (gPu (gPu μ n (a >>> (24 &&& 31)).toInt8.toInt32) (n + 1) (a >>> (16 &&& 31)).toInt8.toInt32) (n + 2) (a >>> (8 &&& 31)).toInt8.toInt32) (n + 3) (a >>> (0 &&& 31)).toInt8.toInt32) := by
  show fX12_puts_l3 (99995 + 1 + 1 + 1 + 1 + 1) a 24 μ = _
  rw [pu_step _ (by decide) h (by omega), pu_step _ (by decide) (gPu_len _ _ _) (by omega), pu_step _ (by decide) (gPu_len _ _ _) (by omega), pu_step _ (by decide) (gPu_len _ _ _) (by omega)]
  rw [fX12_puts_l3, if_pos (by decide)]
  rfl
/-- what lies on the class's tape behind one number more, on the reference's -/
def gAp4 (μ : gM) (n : Nat) (a : Int32) : gM := gAp (gAp (gAp (gAp μ n ((a >>> (24 &&& 31)) &&& 255)) (n + 1) ((a >>> (16 &&& 31)) &&& 255)) (n + 2) ((a >>> (8 &&& 31)) &&& 255)) (n + 3) ((a >>> (0 &&& 31)) &&& 255)
def gPu4 (μ : gM) (n : Nat) (a : Int32) : gM := gPu (gPu (gPu (gPu μ n (a >>> (24 &&& 31)).toInt8.toInt32) (n + 1) (a >>> (16 &&& 31)).toInt8.toInt32) (n + 2) (a >>> (8 &&& 31)).toInt8.toInt32) (n + 3) (a >>> (0 &&& 31)).toInt8.toInt32
theorem gAp4_len (μ : gM) (n : Nat) (a : Int32) : gAp4 μ n a 1 2 = nI (n + 4) := gAp_len _ _ _
theorem gPu4_len (μ : gM) (n : Nat) (a : Int32) : gPu4 μ n a 267 2 = nI (n + 4) := gPu_len _ _ _
def gAp20 (μ : gM) (n : Nat) (a b c d e : Int32) : gM := gAp4 (gAp4 (gAp4 (gAp4 (gAp4 μ n a) (n + 4) b) (n + 8) c) (n + 12) d) (n + 16) e
def gPu20 (μ : gM) (n : Nat) (a b c d e : Int32) : gM := gPu4 (gPu4 (gPu4 (gPu4 (gPu4 μ n a) (n + 4) b) (n + 8) c) (n + 12) d) (n + 16) e
theorem feed_c {a b c d e : Int32} {μ : gM} {n : Nat} (h : μ 1 2 = nI n) (hn : n + 20 ≤ 1500) : fX11_feed a b c d e μ = some (nI (n + 20), gAp20 μ n a b c d e) := by
  have h0 : (nI n + 20 : Int32) ≤ 1500 := by rw [show (20 : Int32) = nI 20 from rfl, nI_add]; exact nI_le (a := n + 20) (b := 1500) hn (by decide)
  unfold fX11_feed
  rw [h, if_pos h0, append_c h (by omega)]
  simp only [zBd, Option.bind_some]
  rw [append_c (n := n + 4) (gAp_len _ _ _) (by omega)]
  simp only [Option.bind_some]
  rw [append_c (n := n + 8) (gAp_len _ _ _) (by omega)]
  simp only [Option.bind_some]
  rw [append_c (n := n + 12) (gAp_len _ _ _) (by omega)]
  simp only [Option.bind_some]
  rw [append_c (n := n + 16) (gAp_len _ _ _) (by omega)]
  simp only [Option.bind_some, gAp_len]
  rfl
theorem feed_m {a b c d e : Int32} {μ : gM} {n : Nat} (h : μ 267 2 = nI n) (hn : n + 20 ≤ 1500) : fX12_feed a b c d e μ = some (nI (n + 20), gPu20 (gUp μ 267 0 0) n a b c d e) := by
  have h0 : (nI n + 20 : Int32) ≤ 1500 := by rw [show (20 : Int32) = nI 20 from rfl, nI_add]; exact nI_le (a := n + 20) (b := 1500) hn (by decide)
  have h1 : gUp μ 267 0 0 267 2 = nI n := by simp [gUp_at, h]
  unfold fX12_feed
  simp only [zLt]
  rw [h1, if_pos h0, puts_c h1 (by omega)]
  simp only [zBd, Option.bind_some]
  rw [puts_c (n := n + 4) (gPu_len _ _ _) (by omega)]
  simp only [Option.bind_some]
  rw [puts_c (n := n + 8) (gPu_len _ _ _) (by omega)]
  simp only [Option.bind_some]
  rw [puts_c (n := n + 12) (gPu_len _ _ _) (by omega)]
  simp only [Option.bind_some]
  rw [puts_c (n := n + 16) (gPu_len _ _ _) (by omega)]
  simp only [Option.bind_some, gPu_len]
  rfl
