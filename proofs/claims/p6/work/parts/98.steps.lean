theorem st_0 (a1 a2 a3 a4 a5 : Int32) {μ : gM} (h : Inv5 μ) : gN0 a1 a2 a3 a4 a5 μ Inv5 := by
  obtain ⟨v, m1, m2, e1, e2, b⟩ := h.feed (a := a1) (b := a2) (c := a3) (d := a4) (e := a5)
  exact ⟨v, v, m1, m2, e1, e2, b⟩
theorem st_1 (a1 a2 a3 a4 a5 : Int32) {μ : gM} (h : Inv5 μ) : gN1 a1 a2 a3 a4 a5 μ Inv5 := by
  obtain ⟨v, m1, m2, e1, e2, b⟩ := h.fin (a := a1)
  exact ⟨v, v, m1, m2, e1, e2, b⟩
theorem st_2 (a1 a2 a3 a4 a5 : Int32) {μ : gM} (h : Inv5 μ) : gN2 a1 a2 a3 a4 a5 μ Inv5 := by
  obtain ⟨v, m1, m2, e1, e2, b⟩ := h.net
  exact ⟨v, v, m1, m2, e1, e2, b⟩
theorem st_3 (a1 a2 a3 a4 a5 : Int32) {μ : gM} (h : Inv5 μ) : gN3 a1 a2 a3 a4 a5 μ Inv5 := by
  obtain ⟨v, m1, m2, e1, e2, b⟩ := h.plan
  exact ⟨v, v, m1, m2, e1, e2, b⟩
theorem st_4 (a1 a2 a3 a4 a5 : Int32) {μ : gM} (h : Inv5 μ) : gN4 a1 a2 a3 a4 a5 μ Inv5 := by
  obtain ⟨v, e1, e2⟩ := pFaultQ (a1 := a1) h.2.2.2.2.2
  exact ⟨v, _, e1, e2, h.u0⟩
theorem st_5 (a1 a2 a3 a4 a5 : Int32) {μ : gM} (h : Inv5 μ) : gN5 a1 a2 a3 a4 a5 μ Inv5 := R5 h (tX11_has h.1.1) (fun _ _ _ k => tX12_has k)
theorem st_6 (a1 a2 a3 a4 a5 : Int32) {μ : gM} (h : Inv5 μ) : gN6 a1 a2 a3 a4 a5 μ Inv5 := R5 h (tX11_group h.1.1) (fun _ _ _ k => tX12_group k)
theorem st_7 (a1 a2 a3 a4 a5 : Int32) {μ : gM} (h : Inv5 μ) : gN7 a1 a2 a3 a4 a5 μ Inv5 := R5 h (tX11_member h.1.1) (fun _ _ _ k => tX12_member k)
theorem st_8 (a1 a2 a3 a4 a5 : Int32) {μ : gM} (h : Inv5 μ) : gN8 a1 a2 a3 a4 a5 μ Inv5 := R5 h (tX11_letter h.1.1) (fun _ _ _ k => tX12_letter k)
theorem st_9 (a1 a2 a3 a4 a5 : Int32) {μ : gM} (h : Inv5 μ) : gN9 a1 a2 a3 a4 a5 μ Inv5 := R5 h (tX11_track h.1.1) (fun _ _ _ k => tX12_track k)
theorem st_10 (a1 a2 a3 a4 a5 : Int32) {μ : gM} (h : Inv5 μ) : gN10 a1 a2 a3 a4 a5 μ Inv5 := R5 h (tX11_event h.1.1) (fun _ _ _ k => tX12_event k)
theorem st_11 (a1 a2 a3 a4 a5 : Int32) {μ : gM} (h : Inv5 μ) : gN11 a1 a2 a3 a4 a5 μ Inv5 := W5 h (tX11_ticks h.1.1) (fun _ _ _ k => tX12_ticks k)
theorem st_12 (a1 a2 a3 a4 a5 : Int32) {μ : gM} (h : Inv5 μ) : gN12 a1 a2 a3 a4 a5 μ Inv5 := W5 h (tX11_up h.1.1) (fun _ _ _ k => tX12_up k)
theorem st_13 (a1 a2 a3 a4 a5 : Int32) {μ : gM} (h : Inv5 μ) : gN13 a1 a2 a3 a4 a5 μ Inv5 := W5 h (tX11_down h.1.1) (fun _ _ _ k => tX12_down k)
theorem st_14 (a1 a2 a3 a4 a5 : Int32) {μ : gM} (h : Inv5 μ) : gN14 a1 a2 a3 a4 a5 μ Inv5 := W5 h (tX11_cut h.1.1) (fun _ _ _ k => tX12_cut k)
theorem st_15 (a1 a2 a3 a4 a5 : Int32) {μ : gM} (h : Inv5 μ) : gN15 a1 a2 a3 a4 a5 μ Inv5 := W5 h (tX11_split h.1.1) (fun _ _ _ k => tX12_split k)
theorem st_16 (a1 a2 a3 a4 a5 : Int32) {μ : gM} (h : Inv5 μ) : gN16 a1 a2 a3 a4 a5 μ Inv5 := W5 h (tX11_word h.1.1) (fun _ _ _ k => tX12_word k)
theorem st_17 (a1 a2 a3 a4 a5 : Int32) {μ : gM} (h : Inv5 μ) : gN17 a1 a2 a3 a4 a5 μ Inv5 := W5 h (tX11_chance h.1.1) (fun _ _ _ k => tX12_chance k)
theorem st_18 (a1 a2 a3 a4 a5 : Int32) {μ : gM} (h : Inv5 μ) : gN18 a1 a2 a3 a4 a5 μ Inv5 := R5 h (tX11_holder h.1.1) (fun _ _ _ k => tX12_holder k)
theorem st_19 (a1 a2 a3 a4 a5 : Int32) {μ : gM} (h : Inv5 μ) : gN19 a1 a2 a3 a4 a5 μ Inv5 := R5 h (tX11_doubles h.1.1) (fun _ _ _ k => tX12_doubles k)
theorem st_20 (a1 a2 a3 a4 a5 : Int32) {μ : gM} (h : Inv5 μ) : gN20 a1 a2 a3 a4 a5 μ Inv5 := R5 h (tX11_orphans h.1.1) (fun _ _ _ k => tX12_orphans k)
theorem st_21 (a1 a2 a3 a4 a5 : Int32) {μ : gM} (h : Inv5 μ) : gN21 a1 a2 a3 a4 a5 μ Inv5 := R5 h (tX11_holds h.1.1) (fun _ _ _ k => tX12_holds k)
theorem st_22 (a1 a2 a3 a4 a5 : Int32) {μ : gM} (h : Inv5 μ) : gN22 a1 a2 a3 a4 a5 μ Inv5 := W5 h (tX11_slot h.1.1) (fun _ _ _ k => tX12_slot k)
theorem st_23 (a1 a2 a3 a4 a5 : Int32) {μ : gM} (h : Inv5 μ) : gN23 a1 a2 a3 a4 a5 μ Inv5 := W5 h (tX11_slots h.1.1) (fun _ _ _ k => tX12_slots k)
theorem st_24 (a1 a2 a3 a4 a5 : Int32) {μ : gM} (h : Inv5 μ) : gN24 a1 a2 a3 a4 a5 μ Inv5 := W5 h (tX11_host h.1.1) (fun _ _ _ k => tX12_host k)
theorem st_25 (a1 a2 a3 a4 a5 : Int32) {μ : gM} (h : Inv5 μ) : gN25 a1 a2 a3 a4 a5 μ Inv5 := W5 h (tX11_load h.1.1) (fun _ _ _ k => tX12_load k)
theorem st_26 (a1 a2 a3 a4 a5 : Int32) {μ : gM} (h : Inv5 μ) : gN26 a1 a2 a3 a4 a5 μ Inv5 := W5 h (tX11_ahead h.1.1) (fun _ _ _ k => tX12_ahead k)
theorem st_27 (a1 a2 a3 a4 a5 : Int32) {μ : gM} (h : Inv5 μ) : gN27 a1 a2 a3 a4 a5 μ Inv5 := W5 h (tX11_fails h.1.1) (fun _ _ _ k => tX12_fails k)
theorem st_28 (a1 a2 a3 a4 a5 : Int32) {μ : gM} (h : Inv5 μ) : gN28 a1 a2 a3 a4 a5 μ Inv5 := W5 h (tX11_worst h.1.1) (fun _ _ _ k => tX12_worst k)
theorem st_29 (a1 a2 a3 a4 a5 : Int32) {μ : gM} (h : Inv5 μ) : gN29 a1 a2 a3 a4 a5 μ Inv5 := W5 h (tX11_settles h.1.1) (fun _ _ _ k => tX12_settles k)
theorem st_30 (a1 a2 a3 a4 a5 : Int32) {μ : gM} (h : Inv5 μ) : gN30 a1 a2 a3 a4 a5 μ Inv5 := W5 h (tX11_least h.1.1) (fun _ _ _ k => tX12_least k)
theorem st_31 (a1 a2 a3 a4 a5 : Int32) {μ : gM} (h : Inv5 μ) : gN31 a1 a2 a3 a4 a5 μ Inv5 := W5 h (tX11_flaps h.1.1) (fun _ _ _ k => tX12_flaps k)
theorem st_32 (a1 a2 a3 a4 a5 : Int32) {μ : gM} (h : Inv5 μ) : gN32 a1 a2 a3 a4 a5 μ Inv5 := W5 h (tX11_needs h.1.1) (fun _ _ _ k => tX12_needs k)
theorem st_33 (a1 a2 a3 a4 a5 : Int32) {μ : gM} (h : Inv5 μ) : gN33 a1 a2 a3 a4 a5 μ Inv5 := W5 h (tX11_letters h.1.1) (fun _ _ _ k => tX12_letters k)
theorem st_34 (a1 a2 a3 a4 a5 : Int32) {μ : gM} (h : Inv5 μ) : gN34 a1 a2 a3 a4 a5 μ Inv5 := W5 h (tX11_stands h.1.1) (fun _ _ _ k => tX12_stands k)
theorem st_35 (a1 a2 a3 a4 a5 : Int32) {μ : gM} (h : Inv5 μ) : gN35 a1 a2 a3 a4 a5 μ Inv5 := W5 h (tX11_returns h.1.1) (fun _ _ _ k => tX12_returns k)
theorem st_36 (a1 a2 a3 a4 a5 : Int32) {μ : gM} (h : Inv5 μ) : gN36 a1 a2 a3 a4 a5 μ Inv5 := W5 h (tX11_under h.1.1) (fun _ _ _ k => tX12_under k)
theorem st_37 (a1 a2 a3 a4 a5 : Int32) {μ : gM} (h : Inv5 μ) : gN37 a1 a2 a3 a4 a5 μ Inv5 := R5 h (tX11_rank h.1.1) (fun _ _ _ k => tX12_rank k)
theorem st_38 (a1 a2 a3 a4 a5 : Int32) {μ : gM} (h : Inv5 μ) : gN38 a1 a2 a3 a4 a5 μ Inv5 := R5 h (tX11_log h.1.1) (fun _ _ _ k => tX12_log k)
theorem st_39 (a1 a2 a3 a4 a5 : Int32) {μ : gM} (h : Inv5 μ) : gN39 a1 a2 a3 a4 a5 μ Inv5 := W5 h (tX11_undo h.1.1) (fun _ _ _ k => tX12_undo k)
theorem st_40 (a1 a2 a3 a4 a5 : Int32) {μ : gM} (h : Inv5 μ) : gN40 a1 a2 a3 a4 a5 μ Inv5 := W5 h (tX11_keep h.1.1) (fun _ _ _ k => tX12_keep k)
theorem st_41 (a1 a2 a3 a4 a5 : Int32) {μ : gM} (h : Inv5 μ) : gN41 a1 a2 a3 a4 a5 μ Inv5 := W5 h (tX11_back h.1.1) (fun _ _ _ k => tX12_back k)
theorem st_all (op a1 a2 a3 a4 a5 : Int32) {μ : gM} (h : Inv5 μ) : ∃ μ2, gS op a1 a2 a3 a4 a5 μ μ2 ∧ Inv5 μ2 := gS_of (P := Inv5) h (st_0 a1 a2 a3 a4 a5 h) (st_1 a1 a2 a3 a4 a5 h) (st_2 a1 a2 a3 a4 a5 h) (st_3 a1 a2 a3 a4 a5 h) (st_4 a1 a2 a3 a4 a5 h) (st_5 a1 a2 a3 a4 a5 h) (st_6 a1 a2 a3 a4 a5 h) (st_7 a1 a2 a3 a4 a5 h) (st_8 a1 a2 a3 a4 a5 h) (st_9 a1 a2 a3 a4 a5 h) (st_10 a1 a2 a3 a4 a5 h) (st_11 a1 a2 a3 a4 a5 h) (st_12 a1 a2 a3 a4 a5 h) (st_13 a1 a2 a3 a4 a5 h) (st_14 a1 a2 a3 a4 a5 h) (st_15 a1 a2 a3 a4 a5 h) (st_16 a1 a2 a3 a4 a5 h) (st_17 a1 a2 a3 a4 a5 h) (st_18 a1 a2 a3 a4 a5 h) (st_19 a1 a2 a3 a4 a5 h) (st_20 a1 a2 a3 a4 a5 h) (st_21 a1 a2 a3 a4 a5 h) (st_22 a1 a2 a3 a4 a5 h) (st_23 a1 a2 a3 a4 a5 h) (st_24 a1 a2 a3 a4 a5 h) (st_25 a1 a2 a3 a4 a5 h) (st_26 a1 a2 a3 a4 a5 h) (st_27 a1 a2 a3 a4 a5 h) (st_28 a1 a2 a3 a4 a5 h) (st_29 a1 a2 a3 a4 a5 h) (st_30 a1 a2 a3 a4 a5 h) (st_31 a1 a2 a3 a4 a5 h) (st_32 a1 a2 a3 a4 a5 h) (st_33 a1 a2 a3 a4 a5 h) (st_34 a1 a2 a3 a4 a5 h) (st_35 a1 a2 a3 a4 a5 h) (st_36 a1 a2 a3 a4 a5 h) (st_37 a1 a2 a3 a4 a5 h) (st_38 a1 a2 a3 a4 a5 h) (st_39 a1 a2 a3 a4 a5 h) (st_40 a1 a2 a3 a4 a5 h) (st_41 a1 a2 a3 a4 a5 h)
