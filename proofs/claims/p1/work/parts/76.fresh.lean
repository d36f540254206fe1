theorem i32_lt (a b : Int32) : a < b ↔ a.toInt < b.toInt := Int32.lt_iff_toInt_lt
theorem i32_le (a b : Int32) : a ≤ b ↔ a.toInt ≤ b.toInt := Int32.le_iff_toInt_le
theorem i64_ltc (a b : Int32) : a.toInt64 < b.toInt64 ↔ a < b := by
  rw [Int64.lt_iff_toInt_lt, Int32.toInt_toInt64, Int32.toInt_toInt64, i32_lt]
theorem i64_eqc (a b : Int32) : a.toInt64 = b.toInt64 ↔ a = b := by
  constructor
  · intro h
    have h1 := congrArg Int64.toInt h
    rw [Int32.toInt_toInt64, Int32.toInt_toInt64] at h1
    exact Int32.toInt_inj.mp h1
  · intro h; rw [h]
theorem lg_neg (a b : Int32) : lg_cmp a.toInt64 b.toInt64 < 0 ↔ a < b := by
  unfold lg_cmp
  by_cases h : a.toInt64 > b.toInt64
  · rw [if_pos h]
    have h1 : b < a := (i64_ltc b a).mp h
    have h2 : ¬ a < b := by rw [i32_lt] at *; omega
    simp only [h2, iff_false]
    decide
  · rw [if_neg h]
    have h1 : ¬ b < a := fun q => h ((i64_ltc b a).mpr q)
    by_cases h2 : a.toInt64 = b.toInt64
    · rw [if_pos h2]
      have h3 := (i64_eqc a b).mp h2
      subst h3
      have h4 : ¬ a < a := by rw [i32_lt]; omega
      simp only [h4, iff_false]
      decide
    · rw [if_neg h2]
      have h3 : ¬ a = b := fun q => h2 ((i64_eqc a b).mpr q)
      have h4 : a < b := by
        rw [i32_lt] at *
        have h5 : ¬ a.toInt = b.toInt := fun q => h3 (Int32.toInt_inj.mp q)
        omega
      simp only [h4, iff_true]
      decide
theorem lg_pos (a b : Int32) : 0 < lg_cmp a.toInt64 b.toInt64 ↔ b < a := by
  unfold lg_cmp
  by_cases h : a.toInt64 > b.toInt64
  · rw [if_pos h]
    have h1 : b < a := (i64_ltc b a).mp h
    simp only [h1, iff_true]
    decide
  · rw [if_neg h]
    have h1 : ¬ b < a := fun q => h ((i64_ltc b a).mpr q)
    simp only [h1, iff_false]
    by_cases h2 : a.toInt64 = b.toInt64
    · rw [if_pos h2]; decide
    · rw [if_neg h2]; decide
/-- isIn over ints -/
theorem isIn_c (x lo hi : Int32) (μ : gM) : fX12_isIn x.toInt64 lo.toInt64 hi.toInt64 μ = some (if x < lo ∨ hi < x then 0 else 1) := by
  unfold fX12_isIn
  by_cases h1 : x < lo
  · rw [if_pos ((lg_neg x lo).mpr h1), if_pos (Or.inl h1)]
  · rw [if_neg (fun q => h1 ((lg_neg x lo).mp q))]
    by_cases h2 : hi < x
    · rw [if_pos ((lg_pos x hi).mpr h2), if_pos (Or.inr h2)]
    · rw [if_neg (fun q => h2 ((lg_pos x hi).mp q)), if_neg (by rintro (q | q); exact h1 q; exact h2 q)]
theorem gUp_at (μ : gM) (a i : Nat) (v : Int32) (b j : Nat) : gUp μ a i v b j = if b = a then (if j = i then v else μ a j) else μ b j := by
  unfold gUp va_up upd
  by_cases h : b = a
  · rw [if_pos h, if_pos h]
  · rw [if_neg h, if_neg h]
theorem neg_or (a : Int32) : a < 0 ∨ (-1 : Int32) < a := by
  rw [i32_lt, i32_lt]
  have e1 : (0 : Int32).toInt = 0 := rfl
  have e2 : (-1 : Int32).toInt = -1 := rfl
  omega
theorem i32_nlt {a b : Int32} (h : ¬ a < b) : b ≤ a := by rw [i32_lt] at h; rw [i32_le]; omega
def gMt : gM := gUp gM0 267 0 0
theorem fr_isGroup (a : Int32) : fX1_isGroup 4 a gM0 = some 0 := by
  unfold fX1_isGroup
  by_cases h : a < 0
  · simp [h]
  · have h1 := i32_nlt h
    simp [h, h1, gM0, zCk]
theorem fr_isThere (s k : Int32) : fX1_isThere 4 s k gM0 = some 0 := by
  unfold fX1_isThere
  by_cases h : s < 0
  · simp [h]
  · by_cases h2 : (2 : Int32) < s
    · simp [h, h2]
    · by_cases h3 : k < 0
      · simp [h, h2, h3]
      · have h4 := i32_nlt h3
        have h5 : gIn s 3 = true := by
          obtain ⟨j, hj, rfl⟩ := nI_of h
          have h6 : ¬ 3 ≤ j := fun q => h2 (nI_lt (a := 2) (b := j) q hj)
          have h7 := nI_clamp hj
          simp [gIn, h, h7, h6]
        simp [h, h2, h3, h4, h5, gM0, zCk]
theorem fr_isMember (a b : Int32) : fX1_isMember 4 a b gM0 = some 0 := by
  unfold fX1_isMember
  simp [fr_isGroup, zBd]
theorem fr_isPair (a b : Int32) : fX11_isPair a b gM0 = some 0 := by
  unfold fX11_isPair
  simp [fr_isGroup, zBd]
theorem fm_isGroup (a : Int32) : fX12_isGroup a gMt = some 0 := by
  unfold fX12_isGroup fX12_groups
  have e : (gMt 269 2 - 1 : Int32) = -1 := by simp [gMt, gUp_at, gM0]
  simp only [zBd, Option.bind_some, e]
  rw [show (0 : Int64) = (0 : Int32).toInt64 from rfl, isIn_c, if_pos (neg_or a)]
  rfl
theorem fm_isGate (a : Int32) : fX12_isGate a gMt = some 0 := by
  unfold fX12_isGate fX12_gates
  have e : (gMt 269 0 - 1 : Int32) = -1 := by simp [gMt, gUp_at, gM0]
  simp only [zBd, Option.bind_some, e]
  rw [show (0 : Int64) = (0 : Int32).toInt64 from rfl, isIn_c, if_pos (neg_or a)]
  rfl
theorem fm_isMember (a b : Int32) : fX12_isMember a b gMt = some 0 := by
  unfold fX12_isMember
  simp [fm_isGroup, zBd]
theorem fm_net : gMt 267 15 = 0 := by simp [gMt, gUp_at, gM0]
theorem fr_net : gM0 4 0 = 0 := by simp [gM0]
theorem fr_5 (a1 a2 a3 a4 a5 : Int32) : gN5 a1 a2 a3 a4 a5 gM0 (fun _ => True) := by
  refine ⟨(-1), gMt, ?_, ?_, trivial⟩
  · simp [fX11_has, fr_isGroup, fr_isThere, fr_isMember, fr_isPair, fr_net, zBd, zBp, zLt, zCk]
  · show fX12_has a1 gM0 = _
    unfold fX12_has
    show zLt gMt _ = _
    simp [fm_isGroup, fm_isGate, fm_isMember, fm_net, zBd, zBp, zLt, zCk]

theorem fr_6 (a1 a2 a3 a4 a5 : Int32) : gN6 a1 a2 a3 a4 a5 gM0 (fun _ => True) := by
  refine ⟨(-1), gMt, ?_, ?_, trivial⟩
  · simp [fX11_group, fr_isGroup, fr_isThere, fr_isMember, fr_isPair, fr_net, zBd, zBp, zLt, zCk]
  · show fX12_group a1 a2 gM0 = _
    unfold fX12_group
    show zLt gMt _ = _
    simp [fm_isGroup, fm_isGate, fm_isMember, fm_net, zBd, zBp, zLt, zCk]

theorem fr_7 (a1 a2 a3 a4 a5 : Int32) : gN7 a1 a2 a3 a4 a5 gM0 (fun _ => True) := by
  refine ⟨(-1), gMt, ?_, ?_, trivial⟩
  · simp [fX11_member, fr_isGroup, fr_isThere, fr_isMember, fr_isPair, fr_net, zBd, zBp, zLt, zCk]
  · show fX12_member a1 a2 a3 gM0 = _
    unfold fX12_member
    show zLt gMt _ = _
    simp [fm_isGroup, fm_isGate, fm_isMember, fm_net, zBd, zBp, zLt, zCk]

theorem fr_11 (a1 a2 a3 a4 a5 : Int32) : gN11 a1 a2 a3 a4 a5 gM0 (fun _ => True) := by
  refine ⟨(-2), gM0, gMt, ?_, ?_, trivial⟩
  · simp [fX11_ticks, fr_isGroup, fr_isThere, fr_isMember, fr_isPair, fr_net, zBd, zBp, zLt, zCk]
  · show fX12_ticks a1 gM0 = _
    unfold fX12_ticks
    show zLt gMt _ = _
    simp [fm_isGroup, fm_isGate, fm_isMember, fm_net, zBd, zBp, zLt, zCk]

theorem fr_12 (a1 a2 a3 a4 a5 : Int32) : gN12 a1 a2 a3 a4 a5 gM0 (fun _ => True) := by
  refine ⟨(-2), gM0, gMt, ?_, ?_, trivial⟩
  · simp [fX11_up, fr_isGroup, fr_isThere, fr_isMember, fr_isPair, fr_net, zBd, zBp, zLt, zCk]
  · show fX12_up a1 gM0 = _
    unfold fX12_up
    show zLt gMt _ = _
    simp [fm_isGroup, fm_isGate, fm_isMember, fm_net, zBd, zBp, zLt, zCk]

theorem fr_13 (a1 a2 a3 a4 a5 : Int32) : gN13 a1 a2 a3 a4 a5 gM0 (fun _ => True) := by
  refine ⟨(-2), gM0, gMt, ?_, ?_, trivial⟩
  · simp [fX11_down, fr_isGroup, fr_isThere, fr_isMember, fr_isPair, fr_net, zBd, zBp, zLt, zCk]
  · show fX12_down a1 (if a2 = 0 then 0 else 1) gM0 = _
    unfold fX12_down
    show zLt gMt _ = _
    simp [fm_isGroup, fm_isGate, fm_isMember, fm_net, zBd, zBp, zLt, zCk]

theorem fr_15 (a1 a2 a3 a4 a5 : Int32) : gN15 a1 a2 a3 a4 a5 gM0 (fun _ => True) := by
  refine ⟨(-2), gM0, gMt, ?_, ?_, trivial⟩
  · simp [fX11_split, fr_isGroup, fr_isThere, fr_isMember, fr_isPair, fr_net, zBd, zBp, zLt, zCk]
  · show fX12_split a1 gM0 = _
    unfold fX12_split
    show zLt gMt _ = _
    simp [fm_isGroup, fm_isGate, fm_isMember, fm_net, zBd, zBp, zLt, zCk]

theorem fr_16 (a1 a2 a3 a4 a5 : Int32) : gN16 a1 a2 a3 a4 a5 gM0 (fun _ => True) := by
  refine ⟨(-2), gM0, gMt, ?_, ?_, trivial⟩
  · simp [fX11_word, fr_isGroup, fr_isThere, fr_isMember, fr_isPair, fr_net, zBd, zBp, zLt, zCk]
  · show fX12_word a1 a2 a3 gM0 = _
    unfold fX12_word
    show zLt gMt _ = _
    simp [fm_isGroup, fm_isGate, fm_isMember, fm_net, zBd, zBp, zLt, zCk]

theorem fr_17 (a1 a2 a3 a4 a5 : Int32) : gN17 a1 a2 a3 a4 a5 gM0 (fun _ => True) := by
  refine ⟨(-2), gM0, gMt, ?_, ?_, trivial⟩
  · simp [fX11_chance, fr_isGroup, fr_isThere, fr_isMember, fr_isPair, fr_net, zBd, zBp, zLt, zCk]
  · show fX12_chance a1 a2 gM0 = _
    unfold fX12_chance
    show zLt gMt _ = _
    simp [fm_isGroup, fm_isGate, fm_isMember, fm_net, zBd, zBp, zLt, zCk]

theorem fr_18 (a1 a2 a3 a4 a5 : Int32) : gN18 a1 a2 a3 a4 a5 gM0 (fun _ => True) := by
  refine ⟨(-1), gMt, ?_, ?_, trivial⟩
  · simp [fX11_holder, fr_isGroup, fr_isThere, fr_isMember, fr_isPair, fr_net, zBd, zBp, zLt, zCk]
  · show fX12_holder a1 a2 gM0 = _
    unfold fX12_holder
    show zLt gMt _ = _
    simp [fm_isGroup, fm_isGate, fm_isMember, fm_net, zBd, zBp, zLt, zCk]

theorem fr_19 (a1 a2 a3 a4 a5 : Int32) : gN19 a1 a2 a3 a4 a5 gM0 (fun _ => True) := by
  refine ⟨(-1), gMt, ?_, ?_, trivial⟩
  · simp [fX11_doubles, fr_isGroup, fr_isThere, fr_isMember, fr_isPair, fr_net, zBd, zBp, zLt, zCk]
  · show fX12_doubles gM0 = _
    unfold fX12_doubles
    show zLt gMt _ = _
    simp [fm_isGroup, fm_isGate, fm_isMember, fm_net, zBd, zBp, zLt, zCk]

theorem fr_20 (a1 a2 a3 a4 a5 : Int32) : gN20 a1 a2 a3 a4 a5 gM0 (fun _ => True) := by
  refine ⟨(-1), gMt, ?_, ?_, trivial⟩
  · simp [fX11_orphans_n58, fX11_orphans, fr_isGroup, fr_isThere, fr_isMember, fr_isPair, fr_net, zBd, zBp, zLt, zCk]
  · show fX12_orphans gM0 = _
    unfold fX12_orphans
    show zLt gMt _ = _
    simp [fm_isGroup, fm_isGate, fm_isMember, fm_net, zBd, zBp, zLt, zCk]

theorem fr_21 (a1 a2 a3 a4 a5 : Int32) : gN21 a1 a2 a3 a4 a5 gM0 (fun _ => True) := by
  refine ⟨(-1), gMt, ?_, ?_, trivial⟩
  · simp [fX11_holds, fr_isGroup, fr_isThere, fr_isMember, fr_isPair, fr_net, zBd, zBp, zLt, zCk]
  · show fX12_holds a1 gM0 = _
    unfold fX12_holds
    show zLt gMt _ = _
    simp [fm_isGroup, fm_isGate, fm_isMember, fm_net, zBd, zBp, zLt, zCk]

theorem fr_22 (a1 a2 a3 a4 a5 : Int32) : gN22 a1 a2 a3 a4 a5 gM0 (fun _ => True) := by
  refine ⟨(-1), gM0, gMt, ?_, ?_, trivial⟩
  · simp [fX11_slot, fr_isGroup, fr_isThere, fr_isMember, fr_isPair, fr_net, zBd, zBp, zLt, zCk]
  · show fX12_slot a1 a2 a3 gM0 = _
    unfold fX12_slot
    show zLt gMt _ = _
    simp [fm_isGroup, fm_isGate, fm_isMember, fm_net, zBd, zBp, zLt, zCk]

theorem fr_23 (a1 a2 a3 a4 a5 : Int32) : gN23 a1 a2 a3 a4 a5 gM0 (fun _ => True) := by
  refine ⟨(-1), gM0, gMt, ?_, ?_, trivial⟩
  · simp [fX11_slots, fr_isGroup, fr_isThere, fr_isMember, fr_isPair, fr_net, zBd, zBp, zLt, zCk]
  · show fX12_slots a1 a2 gM0 = _
    unfold fX12_slots
    show zLt gMt _ = _
    simp [fm_isGroup, fm_isGate, fm_isMember, fm_net, zBd, zBp, zLt, zCk]

theorem fr_24 (a1 a2 a3 a4 a5 : Int32) : gN24 a1 a2 a3 a4 a5 gM0 (fun _ => True) := by
  refine ⟨(-1), gM0, gMt, ?_, ?_, trivial⟩
  · simp [fX11_host, fr_isGroup, fr_isThere, fr_isMember, fr_isPair, fr_net, zBd, zBp, zLt, zCk]
  · show fX12_host a1 a2 a3 gM0 = _
    unfold fX12_host
    show zLt gMt _ = _
    simp [fm_isGroup, fm_isGate, fm_isMember, fm_net, zBd, zBp, zLt, zCk]

theorem fr_25 (a1 a2 a3 a4 a5 : Int32) : gN25 a1 a2 a3 a4 a5 gM0 (fun _ => True) := by
  refine ⟨(-1), gM0, gMt, ?_, ?_, trivial⟩
  · simp [fX11_load, fr_isGroup, fr_isThere, fr_isMember, fr_isPair, fr_net, zBd, zBp, zLt, zCk]
  · show fX12_load a1 a2 a3 gM0 = _
    unfold fX12_load
    show zLt gMt _ = _
    simp [fm_isGroup, fm_isGate, fm_isMember, fm_net, zBd, zBp, zLt, zCk]

theorem fr_26 (a1 a2 a3 a4 a5 : Int32) : gN26 a1 a2 a3 a4 a5 gM0 (fun _ => True) := by
  refine ⟨(-1), gM0, gMt, ?_, ?_, trivial⟩
  · simp [fX11_ahead_n35, fX11_ahead, fr_isGroup, fr_isThere, fr_isMember, fr_isPair, fr_net, zBd, zBp, zLt, zCk]
  · show fX12_ahead a1 a2 gM0 = _
    unfold fX12_ahead
    show zLt gMt _ = _
    simp [fm_isGroup, fm_isGate, fm_isMember, fm_net, zBd, zBp, zLt, zCk]

theorem fr_27 (a1 a2 a3 a4 a5 : Int32) : gN27 a1 a2 a3 a4 a5 gM0 (fun _ => True) := by
  refine ⟨(-1), gM0, gMt, ?_, ?_, trivial⟩
  · simp [fX11_fails, fr_isGroup, fr_isThere, fr_isMember, fr_isPair, fr_net, zBd, zBp, zLt, zCk]
  · show fX12_fails a1 a2 a3 gM0 = _
    unfold fX12_fails
    show zLt gMt _ = _
    simp [fm_isGroup, fm_isGate, fm_isMember, fm_net, zBd, zBp, zLt, zCk]

theorem fr_29 (a1 a2 a3 a4 a5 : Int32) : gN29 a1 a2 a3 a4 a5 gM0 (fun _ => True) := by
  refine ⟨(-1), gM0, gMt, ?_, ?_, trivial⟩
  · simp [fX11_settles, fr_isGroup, fr_isThere, fr_isMember, fr_isPair, fr_net, zBd, zBp, zLt, zCk]
  · show fX12_settles gM0 = _
    unfold fX12_settles
    show zLt gMt _ = _
    simp [fm_isGroup, fm_isGate, fm_isMember, fm_net, zBd, zBp, zLt, zCk]

theorem fr_30 (a1 a2 a3 a4 a5 : Int32) : gN30 a1 a2 a3 a4 a5 gM0 (fun _ => True) := by
  refine ⟨(-1), gM0, gMt, ?_, ?_, trivial⟩
  · simp [fX11_least, fr_isGroup, fr_isThere, fr_isMember, fr_isPair, fr_net, zBd, zBp, zLt, zCk]
  · show fX12_least a1 a2 gM0 = _
    unfold fX12_least
    show zLt gMt _ = _
    simp [fm_isGroup, fm_isGate, fm_isMember, fm_net, zBd, zBp, zLt, zCk]

theorem fr_31 (a1 a2 a3 a4 a5 : Int32) : gN31 a1 a2 a3 a4 a5 gM0 (fun _ => True) := by
  refine ⟨(-1), gM0, gMt, ?_, ?_, trivial⟩
  · simp [fX11_flaps, fr_isGroup, fr_isThere, fr_isMember, fr_isPair, fr_net, zBd, zBp, zLt, zCk]
  · show fX12_flaps a1 a2 gM0 = _
    unfold fX12_flaps
    show zLt gMt _ = _
    simp [fm_isGroup, fm_isGate, fm_isMember, fm_net, zBd, zBp, zLt, zCk]

theorem fr_32 (a1 a2 a3 a4 a5 : Int32) : gN32 a1 a2 a3 a4 a5 gM0 (fun _ => True) := by
  refine ⟨(-1), gM0, gMt, ?_, ?_, trivial⟩
  · simp [fX11_needs, fr_isGroup, fr_isThere, fr_isMember, fr_isPair, fr_net, zBd, zBp, zLt, zCk]
  · show fX12_needs a1 a2 gM0 = _
    unfold fX12_needs
    show zLt gMt _ = _
    simp [fm_isGroup, fm_isGate, fm_isMember, fm_net, zBd, zBp, zLt, zCk]

theorem fr_33 (a1 a2 a3 a4 a5 : Int32) : gN33 a1 a2 a3 a4 a5 gM0 (fun _ => True) := by
  refine ⟨(-1), gM0, gMt, ?_, ?_, trivial⟩
  · simp [fX11_letters, fr_isGroup, fr_isThere, fr_isMember, fr_isPair, fr_net, zBd, zBp, zLt, zCk]
  · show fX12_letters a1 gM0 = _
    unfold fX12_letters
    show zLt gMt _ = _
    simp [fm_isGroup, fm_isGate, fm_isMember, fm_net, zBd, zBp, zLt, zCk]

theorem fr_34 (a1 a2 a3 a4 a5 : Int32) : gN34 a1 a2 a3 a4 a5 gM0 (fun _ => True) := by
  refine ⟨(-1), gM0, gMt, ?_, ?_, trivial⟩
  · simp [fX11_stands, fr_isGroup, fr_isThere, fr_isMember, fr_isPair, fr_net, zBd, zBp, zLt, zCk]
  · show fX12_stands a1 a2 a3 gM0 = _
    unfold fX12_stands
    show zLt gMt _ = _
    simp [fm_isGroup, fm_isGate, fm_isMember, fm_net, zBd, zBp, zLt, zCk]

theorem fr_35 (a1 a2 a3 a4 a5 : Int32) : gN35 a1 a2 a3 a4 a5 gM0 (fun _ => True) := by
  refine ⟨(-1), gM0, gMt, ?_, ?_, trivial⟩
  · simp [fX11_returns, fr_isGroup, fr_isThere, fr_isMember, fr_isPair, fr_net, zBd, zBp, zLt, zCk]
  · show fX12_returns a1 a2 gM0 = _
    unfold fX12_returns
    show zLt gMt _ = _
    simp [fm_isGroup, fm_isGate, fm_isMember, fm_net, zBd, zBp, zLt, zCk]

theorem fr_36 (a1 a2 a3 a4 a5 : Int32) : gN36 a1 a2 a3 a4 a5 gM0 (fun _ => True) := by
  refine ⟨(-1), gM0, gMt, ?_, ?_, trivial⟩
  · simp [fX11_under_n35, fX11_under, fr_isGroup, fr_isThere, fr_isMember, fr_isPair, fr_net, zBd, zBp, zLt, zCk]
  · show fX12_under a1 a2 a3 gM0 = _
    unfold fX12_under
    show zLt gMt _ = _
    simp [fm_isGroup, fm_isGate, fm_isMember, fm_net, zBd, zBp, zLt, zCk]

theorem fr_37 (a1 a2 a3 a4 a5 : Int32) : gN37 a1 a2 a3 a4 a5 gM0 (fun _ => True) := by
  refine ⟨(-1), gMt, ?_, ?_, trivial⟩
  · simp [fX11_rank, fr_isGroup, fr_isThere, fr_isMember, fr_isPair, fr_net, zBd, zBp, zLt, zCk]
  · show fX12_rank a1 a2 gM0 = _
    unfold fX12_rank
    show zLt gMt _ = _
    simp [fm_isGroup, fm_isGate, fm_isMember, fm_net, zBd, zBp, zLt, zCk]

theorem fr_39 (a1 a2 a3 a4 a5 : Int32) : gN39 a1 a2 a3 a4 a5 gM0 (fun _ => True) := by
  refine ⟨(-2), gM0, gMt, ?_, ?_, trivial⟩
  · simp [fX11_undo, fr_isGroup, fr_isThere, fr_isMember, fr_isPair, fr_net, zBd, zBp, zLt, zCk]
  · show fX12_undo gM0 = _
    unfold fX12_undo
    show zLt gMt _ = _
    simp [fm_isGroup, fm_isGate, fm_isMember, fm_net, zBd, zBp, zLt, zCk]

theorem fr_28 (a1 a2 a3 a4 a5 : Int32) : gN28 a1 a2 a3 a4 a5 gM0 (fun _ => True) := by
  refine ⟨(-1), gM0, gMt, ?_, ?_, trivial⟩
  · unfold fX11_worst
    rw [fr_isGroup]
    rfl
  · unfold fX12_worst
    show zLt gMt _ = _
    simp only [zLt]
    rw [fm_isGroup]
    rfl
theorem fm_inN {a hi : Int32} {μ : gM} (h : hi = -1) : fX12_isIn a.toInt64 0 hi.toInt64 μ = some 0 := by
  rw [show (0 : Int64) = (0 : Int32).toInt64 from rfl, isIn_c, h, if_pos (neg_or a)]
theorem fm_in01 (a : Int32) (lo hi : Int32) (μ : gM) : fX12_isIn a.toInt64 lo.toInt64 hi.toInt64 μ = some 0 ∨ (fX12_isIn a.toInt64 lo.toInt64 hi.toInt64 μ = some 1 ∧ ¬ a < lo ∧ ¬ hi < a) := by
  rw [isIn_c]
  by_cases h : a < lo ∨ hi < a
  · left; rw [if_pos h]
  · right; rw [if_neg h]; exact ⟨rfl, fun q => h (Or.inl q), fun q => h (Or.inr q)⟩
theorem fr_8 (a1 a2 a3 a4 a5 : Int32) : gN8 a1 a2 a3 a4 a5 gM0 (fun _ => True) := by
  refine ⟨(-1), gMt, ?_, ?_, trivial⟩
  · simp [fX11_letter, fr_isThere, zBd]
  · unfold fX12_letter
    show zLt gMt _ = _
    simp only [zLt]
    rcases fm_in01 a1 0 2 gMt with h | ⟨h, h1, h2⟩
    · rw [show (0 : Int64) = (0 : Int32).toInt64 from rfl, show (2 : Int64) = (2 : Int32).toInt64 from rfl, h]
      simp [zBd]
    · have h5 : gIn (0 + a1) 209 = true := by
        obtain ⟨j, hj, rfl⟩ := nI_of h1
        have h6 : ¬ 3 ≤ j := fun q => h2 (nI_lt (a := 2) (b := j) q hj)
        have h7 := nI_clamp hj
        have h8 : ¬ 209 ≤ j := by omega
        simp [gIn, h1, h7, h8]
      have e : ∀ j, gMt 269 j = 0 := by intro j; simp [gMt, gUp_at, gM0]
      rw [show fX12_isIn a1.toInt64 0 2 gMt = some 1 from h]
      simp only [zBd, Option.bind_some, h5, zCk, e]
      rw [fm_inN (by rfl)]
      rfl
theorem fr_9 (a1 a2 a3 a4 a5 : Int32) : gN9 a1 a2 a3 a4 a5 gM0 (fun _ => True) := by
  refine ⟨(-1), gMt, ?_, ?_, trivial⟩
  · unfold fX11_track
    have e : gM0 4 10 = 0 := by simp [gM0]
    by_cases h : a1 < 0
    · simp [h]
    · have h1 := i32_nlt h
      have h2 : ¬ a1 < 0 := h
      simp [h, e]
  · unfold fX12_track
    show zLt gMt _ = _
    simp only [zLt]
    rw [fm_inN (by simp [gMt, gUp_at, gM0])]
    rfl
theorem fr_10 (a1 a2 a3 a4 a5 : Int32) : gN10 a1 a2 a3 a4 a5 gM0 (fun _ => True) := by
  refine ⟨(-1), gMt, ?_, ?_, trivial⟩
  · unfold fX11_event
    have e : gM0 35 0 = 0 := by simp [gM0]
    by_cases h : a1 < 0
    · simp [h]
    · simp [h, e]
  · unfold fX12_event
    show zLt gMt _ = _
    simp only [zLt]
    rw [fm_inN (by simp [gMt, gUp_at, gM0])]
    rfl
theorem fr_14 (a1 a2 a3 a4 a5 : Int32) : gN14 a1 a2 a3 a4 a5 gM0 (fun _ => True) := by
  refine ⟨(-2), gM0, gMt, ?_, ?_, trivial⟩
  · simp [fX11_cut, fr_isThere, zBd]
  · unfold fX12_cut
    show zLt gMt _ = _
    simp only [zLt]
    rw [fm_inN (by simp [gMt, gUp_at, gM0])]
    rfl
theorem fr_38 (a1 a2 a3 a4 a5 : Int32) : gN38 a1 a2 a3 a4 a5 gM0 (fun _ => True) := by
  refine ⟨(-1), gMt, ?_, ?_, trivial⟩
  · unfold fX11_log fX0_read
    have e : gM0 37 0 = 0 := by simp [gM0]
    by_cases h : a1 < 0
    · simp [h, zBd]
    · have h1 := i32_nlt h
      simp [h, h1, e, zBd]
  · unfold fX12_log
    show zLt gMt _ = _
    simp only [zLt]
    rw [fm_inN (by simp [gMt, gUp_at, gM0])]
    rfl
theorem fr_40 (a1 a2 a3 a4 a5 : Int32) : gN40 a1 a2 a3 a4 a5 gM0 (fun _ => True) := by
  refine ⟨(-2), gM0, gMt, ?_, ?_, trivial⟩
  · simp [fX11_keep, fr_net]
  · unfold fX12_keep
    show zLt gMt _ = _
    simp only [zLt]
    rcases fm_in01 a1 0 1 gMt with h | ⟨h, h1, h2⟩
    · rw [show fX12_isIn a1.toInt64 0 1 gMt = some 0 from h]; rfl
    · rw [show fX12_isIn a1.toInt64 0 1 gMt = some 1 from h]; rfl
theorem fr_41 (a1 a2 a3 a4 a5 : Int32) : gN41 a1 a2 a3 a4 a5 gM0 (fun _ => True) := by
  refine ⟨(-2), gM0, gMt, ?_, ?_, trivial⟩
  · simp [fX11_back, fr_net]
  · unfold fX12_back
    show zLt gMt _ = _
    simp only [zLt]
    rcases fm_in01 a1 0 1 gMt with h | ⟨h, h1, h2⟩
    · rw [show fX12_isIn a1.toInt64 0 1 gMt = some 0 from h]; rfl
    · rw [show fX12_isIn a1.toInt64 0 1 gMt = some 1 from h]; rfl
theorem fr_4 (a1 a2 a3 a4 a5 : Int32) : gN4 a1 a2 a3 a4 a5 gM0 (fun _ => True) := by
  refine ⟨if a1 = 0 then 0 else -1, gMt, ?_, ?_, trivial⟩
  · unfold fX11_fault
    by_cases h : a1 = 0
    · simp [h, gM0]
    · by_cases h2 : a1 = 1
      · simp [h2, gM0]
      · simp [h, h2]
  · unfold fX12_fault
    show zLt gMt _ = _
    simp only [zLt]
    by_cases h : a1 = 0
    · simp [h, gMt, gUp_at, gM0]
    · by_cases h2 : a1 = 1
      · simp [h2, gMt, gUp_at, gM0]
      · simp [h, h2]
theorem fr_1 (a1 a2 a3 a4 a5 : Int32) : gN1 a1 a2 a3 a4 a5 gM0 (fun _ => True) := by
  by_cases h : a1 < 0
  · refine ⟨0, gM0, gMt, ?_, ?_, trivial⟩
    · simp [fX11_end, h]
    · unfold fX12_end
      show zLt gMt _ = _
      simp only [zLt]
      rw [show (0 : Int64) = (0 : Int32).toInt64 from rfl, isIn_c, if_pos (Or.inl h)]
      rfl
  · by_cases h2 : a1 ≤ 0
    · refine ⟨1, gUp gM0 1 2 a1, gUp (gUp (gUp gM0 1 2 a1) 267 0 0) 267 2 a1, ?_, ?_, trivial⟩
      · simp [fX11_end, h, h2, gM0, zLt]
      · unfold fX12_end
        simp only [zLt]
        rw [show (0 : Int64) = (0 : Int32).toInt64 from rfl, isIn_c, if_neg]
        · rfl
        · rintro (q | q)
          · exact h q
          · have e : gUp (gUp gM0 1 2 a1) 267 0 0 267 2 = 0 := by simp [gUp_at, gM0]
            rw [e, i32_lt] at q
            rw [i32_le] at h2
            omega
    · refine ⟨0, gM0, gMt, ?_, ?_, trivial⟩
      · simp [fX11_end, h, h2, gM0]
      · unfold fX12_end
        show zLt gMt _ = _
        simp only [zLt]
        have e : gMt 267 2 = 0 := by simp [gMt, gUp_at, gM0]
        rw [show (0 : Int64) = (0 : Int32).toInt64 from rfl, isIn_c, if_pos]
        · rfl
        · right
          rw [e, i32_lt]
          rw [i32_le] at h2
          omega
theorem fr_3 (a1 a2 a3 a4 a5 : Int32) : gN3 a1 a2 a3 a4 a5 gM0 (fun _ => True) := by
  refine ⟨(-2), gUp gM0 1 2 0, gUp (gUp (gUp gM0 1 2 0) 267 0 0) 267 2 0, ?_, ?_, trivial⟩
  · simp [fX11_plan, gM0, zLt]
  · have e : gUp (gUp gM0 1 2 0) 267 0 0 267 15 = 0 := by simp [gUp_at, gM0]
    simp [fX12_plan, zLt, e]
theorem net_fresh : ((fX11_net gM0).bind fun q => (fX12_net q.2).map fun r => (q.1, r.1)) = some (0, 0) := by decide +kernel
theorem fr_2 (a1 a2 a3 a4 a5 : Int32) : gN2 a1 a2 a3 a4 a5 gM0 (fun _ => True) := by
  have h := net_fresh
  unfold gN2
  cases h1 : fX11_net gM0 with
  | none => rw [h1] at h; cases h
  | some q =>
    rw [h1, Option.bind_some] at h
    cases h2 : fX12_net q.2 with
    | none => rw [h2] at h; cases h
    | some r =>
      rw [h2, Option.map_some] at h
      have h3 := Option.some.inj h
      obtain ⟨v, μ1⟩ := q
      obtain ⟨v2, μ2⟩ := r
      obtain ⟨e1, e2⟩ := Prod.mk.inj h3
      dsimp only at e1 e2 h2
      subst e1
      subst e2
      exact ⟨0, μ1, μ2, rfl, h2, trivial⟩
