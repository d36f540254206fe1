def gOwnL : List Int32 := [184359, 375084, 17481287, 26810053, 26259620, 20452523, 20594067, 609301677, 207, 150007, 5834003, 11634260, 802, 642220, 641, 533, 482788, 21155, 145581, 21279251, 394408]
def gOwn (j : Nat) : Int32 := gOwnL.getD j 0
/-- the memory of two objects that were just made -/
def gM0 : gM := fun a j => if a = 3 then gOwn j else if a = 1 ∧ j = 8 then -1 else if a = 267 ∧ j = 9 then -1 else 0
def gE0 (g : gG) (k : Nat) : va_E := gEn g k (gM0 k)
def gFill (g : gG) (e : Nat → va_E) (a b : Nat) : Nat → va_E := fun k => if a ≤ k ∧ k < b then gE0 g k else e k
theorem gM0_z {a : Nat} (h1 : a ≠ 3) (h2 : a ≠ 1) (h3 : a ≠ 267) : gM0 a = fun _ => 0 := by
  funext j
  simp [gM0, h1, h2, h3]
def zI (g : gG) (a : Nat) (e0 e : Nat → va_E) (n : Nat) : Prop := ∀ k, k < n → k ≠ a → e k = gFill g e0 a n k
theorem zI_0 (g : gG) (a : Nat) (e : Nat → va_E) : zI g a e e (a + 1) := by
  intro k h1 h2
  unfold gFill
  rw [if_neg (by omega)]
theorem zI_push {g : gG} {a : Nat} {e0 e : Nat → va_E} {n : Nat} {x : va_E} (ha : a < n) (hx : x = gE0 g n) (h : zI g a e0 e n) : zI g a e0 (va_up e n x) (n + 1) := by
  intro k h1 h2
  by_cases hk : k = n
  · subst hk
    unfold gFill va_up
    rw [if_pos rfl, if_pos (by omega), hx]
  · have h3 := h k (by omega) h2
    unfold gFill at h3 ⊢
    unfold va_up
    rw [if_neg hk, h3]
    by_cases h4 : a ≤ k
    · rw [if_pos (by omega), if_pos (by omega)]
    · rw [if_neg (by omega), if_neg (by omega)]
theorem zI_call {g : gG} {a : Nat} {e0 e : Nat → va_E} {n n1 : Nat} {x : va_E} (ha : a < n) (hn : n ≤ n1) (h : zI g a e0 e n) : zI g a e0 (gFill g (va_up e n x) n n1) n1 := by
  intro k h1 h2
  by_cases hk : n ≤ k
  · unfold gFill
    rw [if_pos (by omega), if_pos (by omega)]
  · have h3 := h k (by omega) h2
    unfold gFill at h3 ⊢
    unfold va_up
    rw [if_neg (by omega), if_neg (by omega), h3]
    by_cases h4 : a ≤ k
    · rw [if_pos (by omega), if_pos (by omega)]
    · rw [if_neg (by omega), if_neg (by omega)]
theorem zI_put {g : gG} {a : Nat} {e0 e : Nat → va_E} {n : Nat} {x : va_E} (h : zI g a e0 e n) : zI g a e0 (va_up e a x) n := by
  intro k h1 h2
  rw [← h k h1 h2]
  unfold va_up
  rw [if_neg h2]
theorem zI_end {g : gG} {a : Nat} {e0 e : Nat → va_E} {n : Nat} (h : zI g a e0 e n) (hv : e a = gE0 g a) (han : a < n) : ∀ k, k < n → e k = gFill g e0 a n k := by
  intro k hk
  by_cases h1 : k = a
  · subst h1
    unfold gFill
    rw [if_pos (by omega), hv]
  · exact h k hk h1
theorem zup_ne {e : Nat → va_E} {a n : Nat} {x y : va_E} (h : a ≠ n) (he : e a = x) : va_up e n y a = x := by
  unfold va_up
  rw [if_neg h, he]
theorem zup_eq {e : Nat → va_E} {a : Nat} {x y : va_E} (h : y = x) : va_up e a y a = x := by
  unfold va_up
  rw [if_pos rfl, h]
theorem zup_put {e : Nat → va_E} {a : Nat} {x y : va_E} (_h : e a = x) : va_up e a y a = y := by
  unfold va_up
  rw [if_pos rfl]
theorem zfil {g : gG} {e : Nat → va_E} {a b c : Nat} {x : va_E} (h : ¬ (b ≤ a ∧ a < c)) (he : e a = x) : gFill g e b c a = x := by
  unfold gFill
  rw [if_neg h, he]
theorem gE0_arr {g : gG} {a n : Nat} (h : gk a = (1, n)) (h0 : gM0 a = fun _ => 0) : (.inl (g.2.2 0, n, .inl (fun _ => 0)) : va_E) = gE0 g a := by
  unfold gE0
  rw [gEn_int g _ h, h0]
theorem gE0_obj {g : gG} {a c : Nat} {fs : List Value} (h : gk a = (0, c)) (hf : fs = gFs g.1 c a (gM0 a)) : (.inr (c, fs) : va_E) = gE0 g a := by
  unfold gE0
  rw [gEn_obj g _ h, hf]
