theorem st_0 (a1 a2 a3 a4 a5 : Int32) {μ : gM} (h : INV μ) : gN0 a1 a2 a3 a4 a5 μ INV := by
  obtain ⟨v, m1, m2, e1, e2, b⟩ := h.feed (a := a1) (b := a2) (c := a3) (d := a4) (e := a5)
  exact ⟨v, v, m1, m2, e1, e2, b⟩
theorem st_1 (a1 a2 a3 a4 a5 : Int32) {μ : gM} (h : INV μ) : gN1 a1 a2 a3 a4 a5 μ INV := by
  obtain ⟨v, m1, m2, e1, e2, b⟩ := h.fin (a := a1)
  exact ⟨v, v, m1, m2, e1, e2, b⟩
theorem st_2 (a1 a2 a3 a4 a5 : Int32) {μ : gM} (h : INV μ) : gN2 a1 a2 a3 a4 a5 μ INV := by
  obtain ⟨v, m1, m2, e1, e2, b⟩ := h.net 
  exact ⟨v, v, m1, m2, e1, e2, b⟩
theorem st_3 (a1 a2 a3 a4 a5 : Int32) {μ : gM} (h : INV μ) : gN3 a1 a2 a3 a4 a5 μ INV := by
  obtain ⟨v, m1, m2, e1, e2, b⟩ := h.plan 
  exact ⟨v, v, m1, m2, e1, e2, b⟩
theorem st_4 (a1 a2 a3 a4 a5 : Int32) {μ : gM} (h : INV μ) : gN4 a1 a2 a3 a4 a5 μ INV := by
  obtain ⟨v, m2, e1, e2, b⟩ := h.fault (a1 := a1)
  exact ⟨v, v, m2, e1, e2, b⟩
theorem st_5 (a1 a2 a3 a4 a5 : Int32) {μ : gM} (h : INV μ) : gN5 a1 a2 a3 a4 a5 μ INV := by
  obtain ⟨v, m2, e1, e2, b⟩ := h.has (a1 := a1)
  exact ⟨v, v, m2, e1, e2, b⟩
theorem st_6 (a1 a2 a3 a4 a5 : Int32) {μ : gM} (h : INV μ) : gN6 a1 a2 a3 a4 a5 μ INV := by
  obtain ⟨v, m2, e1, e2, b⟩ := h.group (a1 := a1) (a2 := a2)
  exact ⟨v, v, m2, e1, e2, b⟩
theorem st_7 (a1 a2 a3 a4 a5 : Int32) {μ : gM} (h : INV μ) : gN7 a1 a2 a3 a4 a5 μ INV := by
  obtain ⟨v, m2, e1, e2, b⟩ := h.member (a1 := a1) (a2 := a2) (a3 := a3)
  exact ⟨v, v, m2, e1, e2, b⟩
theorem st_8 (a1 a2 a3 a4 a5 : Int32) {μ : gM} (h : INV μ) : gN8 a1 a2 a3 a4 a5 μ INV := by
  obtain ⟨v, m2, e1, e2, b⟩ := h.letter (a1 := a1) (a2 := a2) (a3 := a3)
  exact ⟨v, v, m2, e1, e2, b⟩
theorem st_9 (a1 a2 a3 a4 a5 : Int32) {μ : gM} (h : INV μ) : gN9 a1 a2 a3 a4 a5 μ INV := by
  obtain ⟨v, m2, e1, e2, b⟩ := h.track (a1 := a1) (a2 := a2)
  exact ⟨v, v, m2, e1, e2, b⟩
theorem st_10 (a1 a2 a3 a4 a5 : Int32) {μ : gM} (h : INV μ) : gN10 a1 a2 a3 a4 a5 μ INV := by
  obtain ⟨v, m2, e1, e2, b⟩ := h.event (a1 := a1) (a2 := a2)
  exact ⟨v, v, m2, e1, e2, b⟩
theorem st_11 (a1 a2 a3 a4 a5 : Int32) {μ : gM} (h : INV μ) : gN11 a1 a2 a3 a4 a5 μ INV := by
  obtain ⟨v, m1, m2, e1, e2, b⟩ := h.ticks (a1 := a1)
  exact ⟨v, v, m1, m2, e1, e2, b⟩
theorem st_12 (a1 a2 a3 a4 a5 : Int32) {μ : gM} (h : INV μ) : gN12 a1 a2 a3 a4 a5 μ INV := by
  obtain ⟨v, m1, m2, e1, e2, b⟩ := h.up (a1 := a1)
  exact ⟨v, v, m1, m2, e1, e2, b⟩
theorem st_13 (a1 a2 a3 a4 a5 : Int32) {μ : gM} (h : INV μ) : gN13 a1 a2 a3 a4 a5 μ INV := by
  obtain ⟨v, m1, m2, e1, e2, b⟩ := h.down (a1 := a1) (a2 := (if a2 = 0 then 0 else 1)) (by split; exact Or.inl rfl; exact Or.inr rfl)
  exact ⟨v, v, m1, m2, e1, e2, b⟩
theorem st_14 (a1 a2 a3 a4 a5 : Int32) {μ : gM} (h : INV μ) : gN14 a1 a2 a3 a4 a5 μ INV := by
  obtain ⟨v, m1, m2, e1, e2, b⟩ := h.cut (a1 := a1) (a2 := (if a2 = 0 then 0 else 1))
  exact ⟨v, v, m1, m2, e1, e2, b⟩
theorem st_15 (a1 a2 a3 a4 a5 : Int32) {μ : gM} (h : INV μ) : gN15 a1 a2 a3 a4 a5 μ INV := by
  obtain ⟨v, m1, m2, e1, e2, b⟩ := h.split (a1 := a1)
  exact ⟨v, v, m1, m2, e1, e2, b⟩
theorem st_16 (a1 a2 a3 a4 a5 : Int32) {μ : gM} (h : INV μ) : gN16 a1 a2 a3 a4 a5 μ INV := by
  obtain ⟨v, m1, m2, e1, e2, b⟩ := h.word (a1 := a1) (a2 := a2) (a3 := a3)
  exact ⟨v, v, m1, m2, e1, e2, b⟩
theorem st_17 (a1 a2 a3 a4 a5 : Int32) {μ : gM} (h : INV μ) : gN17 a1 a2 a3 a4 a5 μ INV := by
  obtain ⟨v, m1, m2, e1, e2, b⟩ := h.chance (a1 := a1) (a2 := a2)
  exact ⟨v, v, m1, m2, e1, e2, b⟩
theorem st_18 (a1 a2 a3 a4 a5 : Int32) {μ : gM} (h : INV μ) : gN18 a1 a2 a3 a4 a5 μ INV := by
  obtain ⟨v, m2, e1, e2, b⟩ := h.holder (a1 := a1) (a2 := a2)
  exact ⟨v, v, m2, e1, e2, b⟩
theorem st_19 (a1 a2 a3 a4 a5 : Int32) {μ : gM} (h : INV μ) : gN19 a1 a2 a3 a4 a5 μ INV := by
  obtain ⟨v, m2, e1, e2, b⟩ := h.doubles 
  exact ⟨v, v, m2, e1, e2, b⟩
theorem st_20 (a1 a2 a3 a4 a5 : Int32) {μ : gM} (h : INV μ) : gN20 a1 a2 a3 a4 a5 μ INV := by
  obtain ⟨v, m2, e1, e2, b⟩ := h.orphans 
  exact ⟨v, v, m2, e1, e2, b⟩
theorem st_21 (a1 a2 a3 a4 a5 : Int32) {μ : gM} (h : INV μ) : gN21 a1 a2 a3 a4 a5 μ INV := by
  obtain ⟨v, m2, e1, e2, b⟩ := h.holds (a1 := a1)
  exact ⟨v, v, m2, e1, e2, b⟩
theorem st_22 (a1 a2 a3 a4 a5 : Int32) {μ : gM} (h : INV μ) : gN22 a1 a2 a3 a4 a5 μ INV := by
  obtain ⟨v, m1, m2, e1, e2, b⟩ := h.slot (a1 := a1) (a2 := a2) (a3 := a3)
  exact ⟨v, v, m1, m2, e1, e2, b⟩
theorem st_23 (a1 a2 a3 a4 a5 : Int32) {μ : gM} (h : INV μ) : gN23 a1 a2 a3 a4 a5 μ INV := by
  obtain ⟨v, m1, m2, e1, e2, b⟩ := h.slots (a1 := a1) (a2 := a2)
  exact ⟨v, v, m1, m2, e1, e2, b⟩
theorem st_24 (a1 a2 a3 a4 a5 : Int32) {μ : gM} (h : INV μ) : gN24 a1 a2 a3 a4 a5 μ INV := by
  obtain ⟨v, m1, m2, e1, e2, b⟩ := h.host (a1 := a1) (a2 := a2) (a3 := a3)
  exact ⟨v, v, m1, m2, e1, e2, b⟩
theorem st_25 (a1 a2 a3 a4 a5 : Int32) {μ : gM} (h : INV μ) : gN25 a1 a2 a3 a4 a5 μ INV := by
  obtain ⟨v, m1, m2, e1, e2, b⟩ := h.load (a1 := a1) (a2 := a2) (a3 := a3)
  exact ⟨v, v, m1, m2, e1, e2, b⟩
theorem st_26 (a1 a2 a3 a4 a5 : Int32) {μ : gM} (h : INV μ) : gN26 a1 a2 a3 a4 a5 μ INV := by
  obtain ⟨v, m1, m2, e1, e2, b⟩ := h.ahead (a1 := a1) (a2 := a2)
  exact ⟨v, v, m1, m2, e1, e2, b⟩
theorem st_27 (a1 a2 a3 a4 a5 : Int32) {μ : gM} (h : INV μ) : gN27 a1 a2 a3 a4 a5 μ INV := by
  obtain ⟨v, m1, m2, e1, e2, b⟩ := h.fails (a1 := a1) (a2 := a2) (a3 := a3)
  exact ⟨v, v, m1, m2, e1, e2, b⟩
theorem st_28 (a1 a2 a3 a4 a5 : Int32) {μ : gM} (h : INV μ) : gN28 a1 a2 a3 a4 a5 μ INV := by
  obtain ⟨v, m1, m2, e1, e2, b⟩ := h.worst (a1 := a1) (a2 := a2)
  exact ⟨v, v, m1, m2, e1, e2, b⟩
theorem st_29 (a1 a2 a3 a4 a5 : Int32) {μ : gM} (h : INV μ) : gN29 a1 a2 a3 a4 a5 μ INV := by
  obtain ⟨v, v2, m1, m2, e1, e2, b⟩ := h.settles0 
  exact ⟨v, v2, m1, m2, e1, e2, b⟩
theorem st_30 (a1 a2 a3 a4 a5 : Int32) {μ : gM} (h : INV μ) : gN30 a1 a2 a3 a4 a5 μ INV := by
  obtain ⟨v, m1, m2, e1, e2, b⟩ := h.least (a1 := a1) (a2 := a2)
  exact ⟨v, v, m1, m2, e1, e2, b⟩
theorem st_31 (a1 a2 a3 a4 a5 : Int32) {μ : gM} (h : INV μ) : gN31 a1 a2 a3 a4 a5 μ INV := by
  obtain ⟨v, m1, m2, e1, e2, b⟩ := h.flaps (a1 := a1) (a2 := a2)
  exact ⟨v, v, m1, m2, e1, e2, b⟩
theorem st_32 (a1 a2 a3 a4 a5 : Int32) {μ : gM} (h : INV μ) : gN32 a1 a2 a3 a4 a5 μ INV := by
  obtain ⟨v, m1, m2, e1, e2, b⟩ := h.needs (a1 := a1) (a2 := a2)
  exact ⟨v, v, m1, m2, e1, e2, b⟩
theorem st_33 (a1 a2 a3 a4 a5 : Int32) {μ : gM} (h : INV μ) : gN33 a1 a2 a3 a4 a5 μ INV := by
  obtain ⟨v, m1, m2, e1, e2, b⟩ := h.letters (a1 := a1)
  exact ⟨v, v, m1, m2, e1, e2, b⟩
theorem st_34 (a1 a2 a3 a4 a5 : Int32) {μ : gM} (h : INV μ) : gN34 a1 a2 a3 a4 a5 μ INV := by
  obtain ⟨v, m1, m2, e1, e2, b⟩ := h.stands (a1 := a1) (a2 := a2) (a3 := a3)
  exact ⟨v, v, m1, m2, e1, e2, b⟩
theorem st_35 (a1 a2 a3 a4 a5 : Int32) {μ : gM} (h : INV μ) : gN35 a1 a2 a3 a4 a5 μ INV := by
  obtain ⟨v, m1, m2, e1, e2, b⟩ := h.returns (a1 := a1) (a2 := a2)
  exact ⟨v, v, m1, m2, e1, e2, b⟩
theorem st_36 (a1 a2 a3 a4 a5 : Int32) {μ : gM} (h : INV μ) : gN36 a1 a2 a3 a4 a5 μ INV := by
  obtain ⟨v, m1, m2, e1, e2, b⟩ := h.under (a1 := a1) (a2 := a2) (a3 := a3)
  exact ⟨v, m1, m2, e1, e2, b⟩
theorem st_37 (a1 a2 a3 a4 a5 : Int32) {μ : gM} (h : INV μ) : gN37 a1 a2 a3 a4 a5 μ INV := by
  obtain ⟨v, m2, e1, e2, b⟩ := h.rank (a1 := a1) (a2 := a2)
  exact ⟨v, v, m2, e1, e2, b⟩
theorem st_38 (a1 a2 a3 a4 a5 : Int32) {μ : gM} (h : INV μ) : gN38 a1 a2 a3 a4 a5 μ INV := by
  obtain ⟨v, m2, e1, e2, b⟩ := h.log (a1 := a1) (a2 := a2)
  exact ⟨v, v, m2, e1, e2, b⟩
theorem st_39 (a1 a2 a3 a4 a5 : Int32) {μ : gM} (h : INV μ) : gN39 a1 a2 a3 a4 a5 μ INV := by
  obtain ⟨v, m1, m2, e1, e2, b⟩ := h.undo 
  exact ⟨v, v, m1, m2, e1, e2, b⟩
theorem st_40 (a1 a2 a3 a4 a5 : Int32) {μ : gM} (h : INV μ) : gN40 a1 a2 a3 a4 a5 μ INV := by
  obtain ⟨v, m1, m2, e1, e2, b⟩ := h.keep (a1 := a1)
  exact ⟨v, v, m1, m2, e1, e2, b⟩
theorem st_41 (a1 a2 a3 a4 a5 : Int32) {μ : gM} (h : INV μ) : gN41 a1 a2 a3 a4 a5 μ INV := by
  obtain ⟨v, m1, m2, e1, e2, b⟩ := h.back (a1 := a1)
  exact ⟨v, v, m1, m2, e1, e2, b⟩
theorem st_all (op a1 a2 a3 a4 a5 : Int32) {μ : gM} (h : INV μ) : ∃ μ2, gS op a1 a2 a3 a4 a5 μ μ2 ∧ INV μ2 := gS_of (P := INV) h (st_0 a1 a2 a3 a4 a5 h) (st_1 a1 a2 a3 a4 a5 h) (st_2 a1 a2 a3 a4 a5 h) (st_3 a1 a2 a3 a4 a5 h) (st_4 a1 a2 a3 a4 a5 h) (st_5 a1 a2 a3 a4 a5 h) (st_6 a1 a2 a3 a4 a5 h) (st_7 a1 a2 a3 a4 a5 h) (st_8 a1 a2 a3 a4 a5 h) (st_9 a1 a2 a3 a4 a5 h) (st_10 a1 a2 a3 a4 a5 h) (st_11 a1 a2 a3 a4 a5 h) (st_12 a1 a2 a3 a4 a5 h) (st_13 a1 a2 a3 a4 a5 h) (st_14 a1 a2 a3 a4 a5 h) (st_15 a1 a2 a3 a4 a5 h) (st_16 a1 a2 a3 a4 a5 h) (st_17 a1 a2 a3 a4 a5 h) (st_18 a1 a2 a3 a4 a5 h) (st_19 a1 a2 a3 a4 a5 h) (st_20 a1 a2 a3 a4 a5 h) (st_21 a1 a2 a3 a4 a5 h) (st_22 a1 a2 a3 a4 a5 h) (st_23 a1 a2 a3 a4 a5 h) (st_24 a1 a2 a3 a4 a5 h) (st_25 a1 a2 a3 a4 a5 h) (st_26 a1 a2 a3 a4 a5 h) (st_27 a1 a2 a3 a4 a5 h) (st_28 a1 a2 a3 a4 a5 h) (st_29 a1 a2 a3 a4 a5 h) (st_30 a1 a2 a3 a4 a5 h) (st_31 a1 a2 a3 a4 a5 h) (st_32 a1 a2 a3 a4 a5 h) (st_33 a1 a2 a3 a4 a5 h) (st_34 a1 a2 a3 a4 a5 h) (st_35 a1 a2 a3 a4 a5 h) (st_36 a1 a2 a3 a4 a5 h) (st_37 a1 a2 a3 a4 a5 h) (st_38 a1 a2 a3 a4 a5 h) (st_39 a1 a2 a3 a4 a5 h) (st_40 a1 a2 a3 a4 a5 h) (st_41 a1 a2 a3 a4 a5 h)
