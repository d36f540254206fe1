/-! totality: a value comes out and something holds of it; walking rules over the printed functions -/
def zH {α : Type} (m : Option α) (Q : α → Prop) : Prop := ∃ a, m = some a ∧ Q a
theorem zH_some {α : Type} {a : α} {Q : α → Prop} (h : Q a) : zH (some a) Q := ⟨a, rfl, h⟩
theorem zH_mono {α : Type} {m : Option α} {Q R : α → Prop} (h : zH m Q) (k : ∀ a, Q a → R a) : zH m R := by
  obtain ⟨a, e, q⟩ := h
  exact ⟨a, e, k a q⟩
theorem zH_lt {α β : Type} {v : α} {f : α → Option β} {Q : β → Prop} (k : ∀ x, x = v → zH (f x) Q) : zH (zLt v f) Q := k v rfl
theorem zH_ck {α : Type} {b : Bool} {m : Option α} {Q : α → Prop} (h : b = true) (k : zH m Q) : zH (zCk b m) Q := by
  unfold zCk
  rw [if_pos h]
  exact k
theorem zH_bd {α β : Type} {m : Option α} {f : α → Option β} {P : α → Prop} {Q : β → Prop} (h : zH m P) (k : ∀ a, P a → zH (f a) Q) : zH (zBd m f) Q := by
  obtain ⟨a, e, q⟩ := h
  rw [e]
  exact k a q
theorem zH_bp {β : Type} {m : Option (Int32 × gM)} {f : Int32 → gM → Option β} {P : Int32 × gM → Prop} {Q : β → Prop} (h : zH m P) (k : ∀ a μ, P (a, μ) → zH (f a μ) Q) : zH (zBp m f) Q := by
  obtain ⟨a, e, q⟩ := h
  rw [e]
  exact k a.1 a.2 q
theorem zH_ite {α : Type} {c : Prop} [Decidable c] {A B : Option α} {Q : α → Prop} (h1 : c → zH A Q) (h2 : ¬ c → zH B Q) : zH (if c then A else B) Q := by
  by_cases h : c
  · rw [if_pos h]; exact h1 h
  · rw [if_neg h]; exact h2 h
theorem zH_ltc {α : Type} {a b : Int32} {x y : Int} {A B : Option α} {Q : α → Prop} (ha : a.toInt = x) (hb : b.toInt = y) (h1 : x < y → zH A Q) (h2 : y ≤ x → zH B Q) : zH (if a < b then A else B) Q :=
  zH_ite (fun h => h1 (by rw [← ha, ← hb]; exact Int32.lt_iff_toInt_lt.mp h)) (fun h => h2 (by
    have q : ¬ a.toInt < b.toInt := fun q => h (Int32.lt_iff_toInt_lt.mpr q)
    omega))
theorem zH_lec {α : Type} {a b : Int32} {x y : Int} {A B : Option α} {Q : α → Prop} (ha : a.toInt = x) (hb : b.toInt = y) (h1 : x ≤ y → zH A Q) (h2 : y < x → zH B Q) : zH (if a ≤ b then A else B) Q :=
  zH_ite (fun h => h1 (by rw [← ha, ← hb]; exact Int32.le_iff_toInt_le.mp h)) (fun h => h2 (by
    have q : ¬ a.toInt ≤ b.toInt := fun q => h (Int32.le_iff_toInt_le.mpr q)
    omega))
theorem zH_eqc {α : Type} {a b : Int32} {x y : Int} {A B : Option α} {Q : α → Prop} (ha : a.toInt = x) (hb : b.toInt = y) (h1 : a = b → x = y → zH A Q) (h2 : ¬ a = b → x ≠ y → zH B Q) : zH (if a = b then A else B) Q :=
  zH_ite (fun h => h1 h (by rw [← ha, ← hb, h])) (fun h => h2 h (by
    rw [← ha, ← hb]
    exact fun q => h (Int32.toInt_inj.mp q)))
theorem iL (a : Int32) (x : Int) (h : a.toInt = x) : a.toInt = x := h
theorem zbm {z : Int} (h1 : -2147483648 ≤ z) (h2 : z ≤ 2147483647) : z.bmod (2 ^ 32) = z := by
  rw [Int.bmod_eq_of_le (by omega) (by omega)]
theorem iA {a b : Int32} {x y : Int} (ha : a.toInt = x) (hb : b.toInt = y) (h1 : -2147483648 ≤ x + y) (h2 : x + y ≤ 2147483647) : (a + b).toInt = x + y := by
  subst ha hb
  rw [Int32.toInt_add, zbm h1 h2]
theorem iS {a b : Int32} {x y : Int} (ha : a.toInt = x) (hb : b.toInt = y) (h1 : -2147483648 ≤ x - y) (h2 : x - y ≤ 2147483647) : (a - b).toInt = x - y := by
  subst ha hb
  rw [Int32.toInt_sub, zbm h1 h2]
theorem iM {a b : Int32} {x y : Int} (ha : a.toInt = x) (hb : b.toInt = y) (h1 : -2147483648 ≤ x * y) (h2 : x * y ≤ 2147483647) : (a * b).toInt = x * y := by
  subst ha hb
  rw [Int32.toInt_mul, zbm h1 h2]
theorem i32b (v : Int32) : -2147483648 ≤ v.toInt ∧ v.toInt ≤ 2147483647 := ⟨Int32.le_toInt v, Int32.toInt_le v⟩
theorem iMx (a b : Int32) : (zMx a b).toInt = max a.toInt b.toInt := by
  unfold zMx
  split
  · rename_i h
    have := Int32.lt_iff_toInt_lt.mp h
    omega
  · rename_i h
    have q : ¬ a.toInt < b.toInt := fun q => h (Int32.lt_iff_toInt_lt.mpr q)
    omega
theorem iMn (a b : Int32) : (zMn a b).toInt = min a.toInt b.toInt := by
  unfold zMn
  split
  · rename_i h
    have := Int32.lt_iff_toInt_lt.mp h
    omega
  · rename_i h
    have q : ¬ b.toInt < a.toInt := fun q => h (Int32.lt_iff_toInt_lt.mpr q)
    omega
theorem zIn {e : Int32} {x : Int} {n : Nat} (h : e.toInt = x) (h0 : 0 ≤ x) (h1 : x < (n : Int)) : gIn e n = true := by
  subst h
  have e1 : ¬ e < 0 := fun q => by
    have := Int32.lt_iff_toInt_lt.mp q
    have e0 : (0 : Int32).toInt = 0 := rfl
    omega
  have e2 : ¬ n ≤ e.toNatClampNeg := by
    show ¬ n ≤ e.toInt.toNat
    omega
  simp [gIn, e1, e2]
theorem zBo {v : Int32} (h : v.toInt = 0 ∨ v.toInt = 1) : (v == 0 || v == 1) = true := by
  rcases h with h | h
  · rw [show v = 0 from Int32.toInt_inj.mp h]; rfl
  · rw [show v = 1 from Int32.toInt_inj.mp h]; rfl
theorem zNz {v : Int32} (h : v.toInt ≠ 0) : (!decide (v = 0)) = true := by
  have e : ¬ v = 0 := fun q => h (by rw [q]; rfl)
  simp [e]
theorem zUp_at (μ : gM) (a i : Nat) (v : Int32) (b j : Nat) : gUp μ a i v b j = if b = a then (if j = i then v else μ a j) else μ b j := by
  unfold gUp va_up upd
  by_cases h : b = a
  · rw [if_pos h, if_pos h]
  · rw [if_neg h, if_neg h]
theorem zUp_ne (μ : gM) {a i : Nat} {v : Int32} {b : Nat} (h : b ≠ a) : gUp μ a i v b = μ b := by
  funext j
  rw [zUp_at, if_neg h]
theorem zUp_same (μ : gM) (a i : Nat) (v : Int32) : gUp μ a i v a i = v := by
  rw [zUp_at, if_pos rfl, if_pos rfl]
theorem zUp_slot (μ : gM) {a i : Nat} {v : Int32} {j : Nat} (h : j ≠ i) : gUp μ a i v a j = μ a j := by
  rw [zUp_at, if_pos rfl, if_neg h]
theorem zCp_ne (μ : gM) {a : Nat} {f : Nat → Int32} {b : Nat} (h : b ≠ a) : gCp μ a f b = μ b := by
  unfold gCp va_up
  rw [if_neg h]
theorem zCp_same (μ : gM) (a : Nat) (f : Nat → Int32) : gCp μ a f a = f := by
  unfold gCp va_up
  rw [if_pos rfl]
theorem zCl {e : Int32} {x : Int} (h : e.toInt = x) (h0 : 0 ≤ x) : ((e.toNatClampNeg : Nat) : Int) = x := by
  subst h
  show (e.toInt.toNat : Int) = _
  omega
/-! the class's cells: bounds by kinds -/
def bdC (k : Nat × Nat) (i : Nat) : Int × Int := match k with
  | (0, 7) => (match i with
    | 2 => (0, 1500)
    | 3 => (0, 1500)
    | _ => (-2147483648, 2147483647))
  | (0, 1) => (match i with
    | 10 => (0, 24)
    | _ => (-2147483648, 2147483647))
  | (1, 3) => (match i with
    | 0 => (0, 6)
    | 1 => (0, 8)
    | 2 => (0, 5)
    | _ => (-2147483648, 2147483647))
  | (0, 9) => (match i with
    | 8 => (0, 2147483647)
    | _ => (-2147483648, 2147483647))
  | (0, 5) => (match i with
    | 0 => (0, 20)
    | _ => (-2147483648, 2147483647))
  | (0, 0) => (match i with
    | 0 => (0, 60)
    | 1 => (0, 59)
    | _ => (-2147483648, 2147483647))
  | (0, 10) => (match i with
    | 2 => (0, 4)
    | 3 => (-1, 4)
    | _ => (-2147483648, 2147483647))
  | (0, 4) => (match i with
    | 3 => (0, 11)
    | _ => (-2147483648, 2147483647))
  | _ => (-2147483648, 2147483647)
/-- a plan's rows: one that lowers a gate names a gate -/
def PR (μ : gM) (q : Nat) : Prop := ∀ k : Nat, (k : Int) < (μ q 0).toInt → (μ (q + 1) (5 * k + 1)).toInt = 1 → 0 ≤ (μ (q + 1) (5 * k + 2)).toInt ∧ (μ (q + 1) (5 * k + 2)).toInt ≤ 5
/-- cells that stay: the tape's bytes, the own words, the net, the reference's; with w the readers', too -/
def FX (w : Bool) (a : Nat) : Prop := (2 ≤ a ∧ a ≤ 16) ∨ 267 ≤ a ∨ (w = true ∧ a < 34)
theorem fx34 {w : Bool} {a : Nat} (h : 34 ≤ a) (h2 : a < 267) : a < 267 ∧ ¬ FX w a := ⟨h2, fun e => by unfold FX at e; omega⟩
theorem fx0 {a : Nat} (h : a < 2 ∨ 17 ≤ a) (h2 : a < 267) : a < 267 ∧ ¬ FX false a := ⟨h2, fun e => by
  rcases e with e | e | ⟨e, -⟩
  · omega
  · omega
  · exact absurd e (by decide)⟩
def J (w : Bool) (L : Int32) (M : gM) (μ : gM) : Prop :=
  (∀ a, a < 267 → ∀ i, (bdC (gk a) i).1 ≤ (μ a i).toInt ∧ (μ a i).toInt ≤ (bdC (gk a) i).2) ∧ (∀ q, q < 267 → gk q = (0, 5) → q ≠ 32 → PR μ q) ∧ μ 1 2 = L ∧ ∀ a, FX w a → μ a = M a
theorem J.weak {w : Bool} {L : Int32} {M μ : gM} (h : J w L M μ) : J false L M μ := ⟨h.1, h.2.1, h.2.2.1, fun a ha => h.2.2.2 a (by
  rcases ha with e | e | ⟨e, -⟩
  · exact Or.inl e
  · exact Or.inr (Or.inl e)
  · exact absurd e (by decide))⟩
theorem gk_plan : ∀ q, q < 278 → gk q = (0, 5) → gk (q + 1) = (1, 100) := by decide +kernel
theorem J.rd {w : Bool} {L : Int32} {M μ : gM} (h : J w L M μ) {a : Nat} {k : Nat × Nat} (hk : gk a = k) (ha : a < 267) (i : Nat) : (bdC k i).1 ≤ (μ a i).toInt ∧ (μ a i).toInt ≤ (bdC k i).2 := by
  subst hk
  exact h.1 a ha i
theorem J.len {w : Bool} {L : Int32} {M μ : gM} (h : J w L M μ) : 0 ≤ L.toInt ∧ L.toInt ≤ 1500 := by
  rw [← h.2.2.1]
  exact h.1 1 (by decide) 2
theorem J.up {w : Bool} {L : Int32} {M μ : gM} (h : J w L M μ) {a i : Nat} {v : Int32} {k : Nat × Nat} (hk : gk a = k) (ha : a < 267 ∧ ¬ FX w a) (h1 : k ≠ (0, 5)) (h2 : k ≠ (1, 100)) (h3 : a ≠ 1 ∨ i ≠ 2) (hb : (bdC k i).1 ≤ v.toInt ∧ v.toInt ≤ (bdC k i).2) : J w L M (gUp μ a i v) := by
  subst hk
  refine ⟨fun b hb' j => ?_, fun q hq hq' hq2 => ?_, ?_, fun b hb' => ?_⟩
  · rw [zUp_at]
    by_cases e : b = a
    · subst e
      rw [if_pos rfl]
      by_cases e2 : j = i
      · subst e2; rw [if_pos rfl]; exact hb
      · rw [if_neg e2]; exact h.1 _ hb' _
    · rw [if_neg e]; exact h.1 _ hb' _
  · have e1 : q ≠ a := fun e => h1 (by rw [← e]; exact hq')
    have e2 : q + 1 ≠ a := fun e => h2 (by rw [← e]; exact gk_plan q (by omega) hq')
    have := h.2.1 q hq hq' hq2
    unfold PR at *
    rw [zUp_ne _ e1, zUp_ne _ e2]
    exact this
  · rw [zUp_at]
    by_cases e : 1 = a
    · rw [if_pos e, if_neg (by omega), ← e]; exact h.2.2.1
    · rw [if_neg e]; exact h.2.2.1
  · rw [zUp_ne _ (fun e => ha.2 (by rw [← e]; exact hb'))]; exact h.2.2.2 b hb'
theorem J.upf {w : Bool} {L : Int32} {M μ : gM} (h : J w L M μ) {a i : Nat} {v : Int32} {k : Nat × Nat} (hk : gk a = k) (ha : a < 267 ∧ ¬ FX w a) (h1 : k ≠ (0, 5)) (h2 : k ≠ (1, 100)) (h3 : a ≠ 1 ∨ i ≠ 2) (hb : bdC k i = (-2147483648, 2147483647)) : J w L M (gUp μ a i v) :=
  h.up hk ha h1 h2 h3 (by rw [hb]; exact i32b v)
theorem J.cp {w : Bool} {L : Int32} {M μ : gM} (h : J w L M μ) {a b n : Nat} {k : Nat × Nat} (hk : gk a = k) (hk2 : gk b = k) (ha : a < 267 ∧ ¬ FX w a) (hb : b < 267) (h1 : k ≠ (0, 5)) (h2 : k ≠ (1, 100)) (h3 : a ≠ 1) : J w L M (gCp μ a (va_cpy (μ b) (μ a) (0 : Int32).toNatClampNeg (0 : Int32).toNatClampNeg n)) := by
  refine ⟨fun b' hb' j => ?_, fun q hq hq' hq2 => ?_, ?_, fun b' hb' => ?_⟩
  · by_cases e : b' = a
    · subst e
      rw [zCp_same]
      unfold va_cpy
      split
      · rw [hk, ← hk2]
        have : (0 : Int32).toNatClampNeg + (j - (0 : Int32).toNatClampNeg) = j := by
          show 0 + (j - 0) = j
          omega
        rw [this]
        exact h.1 b hb j
      · exact h.1 _ hb' j
    · rw [zCp_ne _ e]; exact h.1 _ hb' _
  · have e1 : q ≠ a := fun e => h1 (by rw [← hk, ← e]; exact hq')
    have e2 : q + 1 ≠ a := fun e => h2 (by rw [← hk, ← e]; exact gk_plan q (by omega) hq')
    have := h.2.1 q hq hq' hq2
    unfold PR at *
    rw [zCp_ne _ e1, zCp_ne _ e2]
    exact this
  · rw [zCp_ne _ (Ne.symm h3)]; exact h.2.2.1
  · rw [zCp_ne _ (fun e => ha.2 (by rw [← e]; exact hb'))]; exact h.2.2.2 b' hb'
/-- a state's cells -/
def stk : Nat → Nat × Nat
  | 0 => (0, 9)
  | 1 => (0, 5)
  | 2 => (1, 100)
  | 3 => (0, 0)
  | 4 => (1, 240)
  | 5 => (1, 5)
  | 6 => (1, 5)
  | 7 => (1, 5)
  | 8 => (1, 5)
  | _ => (1, 30)
def sS (p : Nat) : Prop := (∀ c, c < 14 → gk (p + c) = stk c) ∧ p + 14 < 267 ∧ 34 ≤ p
def sW (p : Nat) : Prop := sS p ∧ gk (p + 14) = (0, 10)
theorem sS_all : ∀ p, p ∈ [34, 52, 66, 80, 94, 108, 122, 136, 150, 164, 178, 192, 206, 220, 234, 249] → ∀ c, c < 14 → gk (p + c) = stk c := by decide +kernel
theorem sS_34 : sS 34 := ⟨sS_all 34 (by decide), by decide, by decide⟩
theorem sS_249 : sS 249 := ⟨sS_all 249 (by decide), by decide, by decide⟩
theorem sW_34 : sW 34 := ⟨sS_34, by decide +kernel⟩
theorem sW_249 : sW 249 := ⟨sS_249, by decide +kernel⟩
theorem sS_act {k : Nat} (h : k < 12) : sS (52 + 14 * k) := by
  refine ⟨?_, by omega, by omega⟩
  apply sS_all
  have : k = 0 ∨ k = 1 ∨ k = 2 ∨ k = 3 ∨ k = 4 ∨ k = 5 ∨ k = 6 ∨ k = 7 ∨ k = 8 ∨ k = 9 ∨ k = 10 ∨ k = 11 := by omega
  rcases this with rfl | rfl | rfl | rfl | rfl | rfl | rfl | rfl | rfl | rfl | rfl | rfl <;> decide
theorem sS_img {k : Nat} (h : k < 2) : sS (220 + 14 * k) := by
  refine ⟨?_, by omega, by omega⟩
  apply sS_all
  have : k = 0 ∨ k = 1 := by omega
  rcases this with rfl | rfl <;> decide
/-- a net's bounds -/
def sN (p : Nat) : Prop := (p = 4 ∨ p = 18)
def NB (p : Nat) (μ : gM) : Prop := (0 ≤ (μ (p + 1) 0).toInt ∧ (μ (p + 1) 0).toInt ≤ 6) ∧ (0 ≤ (μ (p + 1) 1).toInt ∧ (μ (p + 1) 1).toInt ≤ 8) ∧ (0 ≤ (μ (p + 1) 2).toInt ∧ (μ (p + 1) 2).toInt ≤ 5) ∧ 0 ≤ (μ p 10).toInt ∧ (μ p 10).toInt ≤ 24
theorem J.nb4 {w : Bool} {L : Int32} {M μ : gM} (h : J w L M μ) : NB 4 μ := ⟨h.rd (a := 5) rfl (by decide) 0, h.rd (a := 5) rfl (by decide) 1, h.rd (a := 5) rfl (by decide) 2, h.rd (a := 4) rfl (by decide) 10⟩
theorem J.nb18 {w : Bool} {L : Int32} {M μ : gM} (h : J w L M μ) : NB 18 μ := ⟨h.rd (a := 19) rfl (by decide) 0, h.rd (a := 19) rfl (by decide) 1, h.rd (a := 19) rfl (by decide) 2, h.rd (a := 18) rfl (by decide) 10⟩
/-- the reader alone has changed -/
def JL (C μ : gM) : Prop := (∀ a, a ≠ 1 → μ a = C a) ∧ μ 1 2 = C 1 2 ∧ 0 ≤ (μ 1 3).toInt ∧ (μ 1 3).toInt ≤ 1500
def hL (C : gM) : Prop := 0 ≤ (C 1 2).toInt ∧ (C 1 2).toInt ≤ 1500
theorem JL.up {C μ : gM} (h : JL C μ) {i : Nat} {v : Int32} (h2 : i ≠ 2) (h3 : i = 3 → 0 ≤ v.toInt ∧ v.toInt ≤ 1500) : JL C (gUp μ 1 i v) := by
  refine ⟨fun a ha => by rw [zUp_ne _ ha]; exact h.1 a ha, by rw [zUp_slot _ (Ne.symm h2)]; exact h.2.1, ?_⟩
  by_cases e : i = 3
  · subst e; rw [zUp_same]; exact h3 rfl
  · rw [zUp_slot _ (Ne.symm e)]; exact h.2.2
theorem J.jl {w : Bool} {L : Int32} {M μ : gM} (h : J w L M μ) : JL μ μ := ⟨fun _ _ => rfl, rfl, h.rd (a := 1) rfl (by decide) 3⟩
theorem J.hl {w : Bool} {L : Int32} {M μ : gM} (h : J w L M μ) : hL μ := h.rd (a := 1) rfl (by decide) 2
theorem JL.lenI {C μ : gM} (h : JL C μ) (hC : hL C) : 0 ≤ (μ 1 2).toInt ∧ (μ 1 2).toInt ≤ 1500 := by rw [h.2.1]; exact hC
theorem J.lex {L : Int32} {M μ μ' : gM} (h : J false L M μ) (g : JL μ μ') : J false L M μ' := by
  refine ⟨fun a ha i => ?_, fun q hq hq' hq2 => ?_, by rw [g.2.1]; exact h.2.2.1, fun a ha => by rw [g.1 a (fun e => (fx0 (a := a) (by omega) (by omega)).2 ha)]; exact h.2.2.2 a ha⟩
  · by_cases e : a = 1
    · subst e
      match i with
      | 2 => rw [g.2.1]; exact h.1 1 ha 2
      | 3 => exact g.2.2
      | 0 => exact i32b _
      | 1 => exact i32b _
      | i + 4 => exact i32b _
    · rw [g.1 a e]; exact h.1 a ha i
  · have e1 : q ≠ 1 := fun e => by subst e; exact absurd hq' (by decide)
    have e2 : q + 1 ≠ 1 := fun e => by
      have : q = 0 := by omega
      subst this
      exact absurd hq' (by decide)
    have := h.2.1 q hq hq' hq2
    unfold PR at *
    rw [g.1 _ e1, g.1 _ e2]
    exact this
theorem JL.tr {A B C : gM} (h : JL A B) (g : JL B C) : JL A C := ⟨fun a ha => (g.1 a ha).trans (h.1 a ha), g.2.1.trans h.2.1, g.2.2⟩
theorem JL.nb {C μ : gM} (h : JL C μ) {p : Nat} (hp : sN p) (n : NB p C) : NB p μ := by
  unfold NB at *
  rw [h.1 (p + 1) (by unfold sN at hp; omega), h.1 p (by unfold sN at hp; omega)]
  exact n
theorem iMx' {a b : Int32} {x y : Int} (ha : a.toInt = x) (hb : b.toInt = y) : (zMx a b).toInt = max x y := by rw [iMx, ha, hb]
theorem iMn' {a b : Int32} {x y : Int} (ha : a.toInt = x) (hb : b.toInt = y) : (zMn a b).toInt = min x y := by rw [iMn, ha, hb]
theorem iD6 {a : Int32} {x : Int} (ha : a.toInt = x) (h0 : 0 ≤ x) : (a / 6).toInt = x / 6 := by
  have hb := i32b a
  subst ha
  rw [Int32.toInt_div, show (6 : Int32).toInt = 6 from rfl, Int.tdiv_eq_ediv_of_nonneg h0, zbm (by omega) (by omega)]
/-- a log's cells -/
def sC (p : Nat) : Prop := gk p = (0, 0) ∧ gk (p + 1) = (1, 240) ∧ p + 1 < 267 ∧ 34 ≤ p
theorem sS.c {p : Nat} (h : sS p) : sC (p + 3) := ⟨h.1 3 (by decide), h.1 4 (by decide), by have := h.2.1; omega, by have := h.2.2; omega⟩
theorem J.pr {w : Bool} {L : Int32} {M μ : gM} (h : J w L M μ) {p : Nat} (hp : sS p) {x : Int32} {k : Int} (hx : x.toInt = k * 5) (h0 : 0 ≤ k) (h1 : k < (μ (p + 1) 0).toInt) (e : (μ (p + 1 + 1) (x + 1).toNatClampNeg).toInt = 1) : 0 ≤ (μ (p + 1 + 1) (x + 2).toNatClampNeg).toInt ∧ (μ (p + 1 + 1) (x + 2).toNatClampNeg).toInt ≤ 5 := by
  have hb := h.rd (a := p + 1) (hp.1 1 (by decide)) (by have := hp.2.1; omega) 0
  have hb2 : (μ (p + 1) 0).toInt ≤ 20 := hb.2
  obtain ⟨n, rfl⟩ : ∃ n : Nat, k = n := ⟨k.toNat, by omega⟩
  have e1 : (x + 1).toNatClampNeg = 5 * n + 1 := by
    have := zCl (iA hx (iL (1) (1) rfl) (by omega) (by omega)) (by omega)
    omega
  have e2 : (x + 2).toNatClampNeg = 5 * n + 2 := by
    have := zCl (iA hx (iL (2) (2) rfl) (by omega) (by omega)) (by omega)
    omega
  have hq := h.2.1 (p + 1) (by have := hp.2.1; omega) (hp.1 1 (by decide)) (by have := hp.2.2; omega)
  rw [e1] at e
  rw [e2]
  exact hq n h1 e
theorem NB.c {p : Nat} {μ : gM} (h : NB p μ) {a : Int32} (h0 : 0 ≤ a.toInt) (h2 : a.toInt ≤ 2) : 0 ≤ (μ (p + 1) a.toNatClampNeg).toInt ∧ (μ (p + 1) a.toNatClampNeg).toInt ≤ 8 ∧ (a.toInt = 0 → (μ (p + 1) a.toNatClampNeg).toInt ≤ 6) ∧ (a.toInt = 2 → (μ (p + 1) a.toNatClampNeg).toInt ≤ 5) := by
  obtain ⟨n0, n1, n2, -⟩ := h
  have e : a.toNatClampNeg = a.toInt.toNat := rfl
  have : a.toInt = 0 ∨ a.toInt = 1 ∨ a.toInt = 2 := by omega
  rcases this with q | q | q <;> rw [e, q]
  · exact ⟨n0.1, Int.le_trans n0.2 (by decide), fun _ => n0.2, fun w => absurd w (by decide)⟩
  · exact ⟨n1.1, n1.2, fun w => absurd w (by decide), fun w => absurd w (by decide)⟩
  · exact ⟨n2.1, Int.le_trans n2.2 (by decide), fun w => absurd w (by decide), fun _ => n2.2⟩
theorem J.pz {w : Bool} {L : Int32} {M μ : gM} (h : J w L M μ) {a : Nat} (hk : gk a = (0, 5)) (ha : a < 267 ∧ ¬ FX w a) : J w L M (gUp μ a 0 0) := by
  have hx : gk (a + 1) = (1, 100) := gk_plan a (by have := ha.1; omega) hk
  refine ⟨fun b hb' j => ?_, fun q hq hq' hq2 => ?_, ?_, fun b hb' => ?_⟩
  · rw [zUp_at]
    by_cases e : b = a
    · subst e
      rw [if_pos rfl]
      by_cases e2 : j = 0
      · subst e2; rw [if_pos rfl, hk]; exact ⟨by decide, by decide⟩
      · rw [if_neg e2]; exact h.1 _ hb' _
    · rw [if_neg e]; exact h.1 _ hb' _
  · by_cases e : q = a
    · subst e
      intro k hk2
      rw [zUp_same] at hk2
      exact absurd hk2 (by show ¬ (k : Int) < 0; omega)
    · have e2 : q + 1 ≠ a := fun e => by
        have := gk_plan q (by omega) hq'
        rw [e, hk] at this
        exact absurd this (by decide)
      have := h.2.1 q hq hq' hq2
      unfold PR at *
      rw [zUp_ne _ e, zUp_ne _ e2]
      exact this
  · have e : (1 : Nat) ≠ a := fun e => by rw [← e] at hk; exact absurd hk (by decide)
    rw [zUp_ne _ e]; exact h.2.2.1
  · rw [zUp_ne _ (fun e => ha.2 (by rw [← e]; exact hb'))]; exact h.2.2.2 b hb'
theorem tX5_copyFrom {w : Bool} {L : Int32} {M μ : gM} {p q : Nat} (h : J w L M μ) (hp : gk p = (0, 5)) (hp2 : p + 1 < 267) (hp3 : 34 ≤ p) (hq : gk q = (0, 5)) (hq2 : q + 1 < 267) (hr : PR μ q) : zH (fX5_copyFrom p q μ) (fun ν => J w L M ν) := by
  unfold fX5_copyFrom
  refine zH_lt (fun μ1 e1 => ?_)
  refine zH_lt (fun μ2 e2 => ?_)
  refine zH_some ?_
  have hx : gk (p + 1) = (1, 100) := gk_plan p (by omega) hp
  have hy : gk (q + 1) = (1, 100) := gk_plan q (by omega) hq
  have n1 : p + 1 ≠ p := by omega
  have n2 : q + 1 ≠ p := fun e => by rw [e, hp] at hy; exact absurd hy (by decide)
  have n3 : p ≠ q + 1 := Ne.symm n2
  have w1 : μ2 p 0 = μ q 0 := by rw [e2, zCp_ne _ (Ne.symm n1), e1, zUp_same]
  have w2 : ∀ j, j ≠ 0 → μ2 p j = μ p j := fun j hj => by rw [e2, zCp_ne _ (Ne.symm n1), e1, zUp_slot _ hj]
  have w3 : μ2 (p + 1) = va_cpy (μ (q + 1)) (μ (p + 1)) 0 0 100 := by
    rw [e2, zCp_same, e1, zUp_ne _ n2, zUp_ne _ n1]; rfl
  have w4 : ∀ b, b ≠ p → b ≠ p + 1 → μ2 b = μ b := fun b h1 h2 => by rw [e2, zCp_ne _ h2, e1, zUp_ne _ h1]
  refine ⟨fun b hb' j => ?_, fun a ha ha' ha2 => ?_, ?_, fun b hb' => ?_⟩
  · by_cases e : b = p
    · subst e
      by_cases ej : j = 0
      · subst ej
        rw [w1, hp, ← hq]; exact h.1 q (by omega) 0
      · rw [w2 j ej]; exact h.1 _ hb' j
    · by_cases e' : b = p + 1
      · subst e'
        rw [hx]; exact i32b _
      · rw [w4 b e e']; exact h.1 b hb' j
  · by_cases e : a = p
    · subst e
      intro k hk hk1
      rw [w1] at hk
      have hb : (μ q 0).toInt ≤ 20 := (h.rd hq (by omega) 0).2
      have hc : ∀ i, i < 100 → μ2 (a + 1) i = μ (q + 1) i := fun i hi => by
        rw [w3]; unfold va_cpy; rw [if_pos (by omega)]; congr 1; omega
      rw [hc _ (by omega)] at hk1
      rw [hc _ (by omega)]
      exact hr k hk hk1
    · have ea : gk (a + 1) = (1, 100) := gk_plan a (by omega) ha'
      have e3 : a + 1 ≠ p := fun e => by rw [e, hp] at ea; exact absurd ea (by decide)
      have e4 : a ≠ p + 1 := fun e => by rw [e, hx] at ha'; exact absurd ha' (by decide)
      have := h.2.1 a ha ha' ha2
      unfold PR at *
      rw [w4 a e e4, w4 (a + 1) e3 (by omega)]
      exact this
  · have e : (1 : Nat) ≠ p := fun e => by rw [← e] at hp; exact absurd hp (by decide)
    have e' : (1 : Nat) ≠ p + 1 := fun e => by rw [← e] at hx; exact absurd hx (by decide)
    rw [w4 1 e e']; exact h.2.2.1
  · have n1 := (fx34 (w := w) (a := p) hp3 (by omega)).2
    have n2 := (fx34 (w := w) (a := p + 1) (by omega) hp2).2
    rw [w4 b (fun e => n1 (by rw [← e]; exact hb')) (fun e => n2 (by rw [← e]; exact hb'))]; exact h.2.2.2 b hb'
theorem zAnd63 (x : Int32) : (x &&& 63).toInt ≤ 63 := by
  have h : (x &&& 63).toBitVec.toNat ≤ 63 := by
    rw [Int32.toBitVec_and, BitVec.toNat_and]
    exact Nat.and_le_right
  have e : (x &&& 63).toInt = (x &&& 63).toBitVec.toInt := rfl
  rw [e, BitVec.toInt_eq_toNat_cond]
  split <;> omega
theorem tJ6_bitCount_0f7a4 {a1 : Int32} {μ : gM} : zH (fJ6_bitCount_0f7a4 a1 μ) (fun v => v.toInt ≤ 63) := by
  unfold fJ6_bitCount_0f7a4
  refine zH_lt (fun x1 _ => ?_)
  refine zH_lt (fun x2 _ => ?_)
  refine zH_lt (fun x3 _ => ?_)
  refine zH_lt (fun x4 _ => ?_)
  refine zH_lt (fun x5 _ => ?_)
  exact zH_some (zAnd63 x5)
theorem J.upc {w : Bool} {L : Int32} {M μ : gM} (h : J w L M μ) {a : Nat} (hk : gk a = (1, 3)) (ha : a < 267 ∧ ¬ FX w a) (h3 : a ≠ 1) {e v : Int32} (h0 : 0 ≤ e.toInt) (h2 : e.toInt ≤ 2) (hv : 0 ≤ v.toInt ∧ (e.toInt = 0 → v.toInt ≤ 6) ∧ (e.toInt = 1 → v.toInt ≤ 8) ∧ (e.toInt = 2 → v.toInt ≤ 5)) : J w L M (gUp μ a e.toNatClampNeg v) := by
  have q : e.toNatClampNeg = e.toInt.toNat := rfl
  have : e.toInt = 0 ∨ e.toInt = 1 ∨ e.toInt = 2 := by omega
  rcases this with w | w | w <;> rw [q, w]
  · exact h.up hk ha (by decide) (by decide) (Or.inl h3) ⟨hv.1, hv.2.1 w⟩
  · exact h.up hk ha (by decide) (by decide) (Or.inl h3) ⟨hv.1, hv.2.2.1 w⟩
  · exact h.up hk ha (by decide) (by decide) (Or.inl h3) ⟨hv.1, hv.2.2.2 w⟩
theorem tX1_clear_l22 {L : Int32} {M : gM} : ∀ (n : Nat) (y1 : Int32) (μ : gM), J false L M μ → 0 ≤ y1.toInt → y1.toInt ≤ 5 → 5 - y1.toInt < (n : Int) → zH (fX1_clear_l22 18 n y1 μ) (fun ν => J false L M ν) := by
  intro n
  induction n with
  | zero =>
    intro y1 μ h g0 g1 gm
    exact absurd gm (by omega)
  | succ n ih =>
    intro y1 μ h g0 g1 gm
    rw [fX1_clear_l22]
    refine zH_lec (iL (5) (5) rfl) (rfl : y1.toInt = _) (fun c => ?_) (fun c => ?_)
    · refine zH_lt (fun μ1 e1 => ?_)
      exact zH_some (by rw [e1]; exact h.up (a := 18) (k := (0, 1)) rfl (fx0 (by decide) (by decide)) (by decide) (by decide) (Or.inl (by decide)) ⟨by decide, by decide⟩)
    · refine zH_ck (zIn (rfl : y1.toInt = _) (by omega) (by omega)) ?_
      refine zH_lt (fun μ1 e1 => ?_)
      have h1 : J false L M μ1 := by rw [e1]; exact h.upf (a := 18 + 7) (k := (1, 5)) rfl (fx0 (by decide) (by decide)) (by decide) (by decide) (Or.inl (by decide)) rfl
      refine zH_lt (fun x4 e4 => ?_)
      have q : x4.toInt = y1.toInt + 1 := by rw [e4]; exact iA rfl (iL (1) (1) rfl) (by omega) (by omega)
      exact ih x4 μ1 h1 (by omega) (by omega) (by omega)
theorem tX1_clear_l2 {L : Int32} {M : gM} : ∀ (n : Nat) (y1 : Int32) (μ : gM), J false L M μ → 0 ≤ y1.toInt → y1.toInt ≤ 3 → 3 - y1.toInt < (n : Int) → zH (fX1_clear_l2 18 n y1 μ) (fun ν => J false L M ν) := by
  intro n
  induction n with
  | zero =>
    intro y1 μ h g0 g1 gm
    exact absurd gm (by omega)
  | succ n ih =>
    intro y1 μ h g0 g1 gm
    rw [fX1_clear_l2]
    refine zH_lec (iL (3) (3) rfl) (rfl : y1.toInt = _) (fun c => ?_) (fun c => ?_)
    · exact tX1_clear_l22 100000 (0 : Int32) μ h (by decide) (by decide) (by decide)
    · refine zH_ck (zIn (rfl : y1.toInt = _) (by omega) (by omega)) ?_
      refine zH_lt (fun μ1 e1 => ?_)
      have h1 : J false L M μ1 := by rw [e1]; exact h.upc (a := 18 + 1) rfl (fx0 (by decide) (by decide)) (by decide) (e := y1) (by omega) (by omega) ⟨by decide, fun _ => by decide, fun _ => by decide, fun _ => by decide⟩
      refine zH_lt (fun x4 e4 => ?_)
      have q : x4.toInt = y1.toInt + 1 := by rw [e4]; exact iA rfl (iL (1) (1) rfl) (by omega) (by omega)
      exact ih x4 μ1 h1 (by omega) (by omega) (by omega)
theorem tX1_clear {L : Int32} {M μ : gM} (h : J false L M μ) : zH (fX1_clear 18 μ) (fun ν => J false L M ν) := by
  unfold fX1_clear
  exact tX1_clear_l2 100000 (0 : Int32) μ h (by decide) (by decide) (by decide)
