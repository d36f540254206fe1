theorem xJ {μ μ1 : gM} {v : Int32} {f : Option (Int32 × gM)} (hf : zH f (fun r => J true (μ 1 2) μ r.2)) (e1 : f = some (v, μ1)) : ∀ a, 267 ≤ a → μ1 a = μ a := fun a ha => by
  have j0 := zHu hf e1
  exact j0.2.2.2 a (Or.inr (Or.inl ha))
theorem st_0 (a1 a2 a3 a4 a5 : Int32) {n : Nat} {μ : gM} (hn : n ≤ 511) (h : INV μ) (m : nMV n μ) : gN0 a1 a2 a3 a4 a5 μ (fun μ2 => INV μ2 ∧ nMV (n + 1) μ2) := by
  obtain ⟨v, m1, m2, e1, e2, b⟩ := h.feed (a := a1) (b := a2) (c := a3) (d := a4) (e := a5)
  exact ⟨v, v, m1, m2, e1, e2, b, (m.cls (feedC e1)).feed e2⟩
theorem st_1 (a1 a2 a3 a4 a5 : Int32) {n : Nat} {μ : gM} (hn : n ≤ 511) (h : INV μ) (m : nMV n μ) : gN1 a1 a2 a3 a4 a5 μ (fun μ2 => INV μ2 ∧ nMV (n + 1) μ2) := by
  obtain ⟨v, m1, m2, e1, e2, b⟩ := h.fin (a := a1)
  exact ⟨v, v, m1, m2, e1, e2, b, m.fin hn e1 e2⟩
theorem st_2 (a1 a2 a3 a4 a5 : Int32) {n : Nat} {μ : gM} (hn : n ≤ 511) (h : INV μ) (m : nMV n μ) : gN2 a1 a2 a3 a4 a5 μ (fun μ2 => INV μ2 ∧ nMV (n + 1) μ2) := by
  obtain ⟨v, m1, m2, e1, e2, b⟩ := h.net
  exact ⟨v, v, m1, m2, e1, e2, b, m.nt h e1 e2⟩
theorem st_3 (a1 a2 a3 a4 a5 : Int32) {n : Nat} {μ : gM} (hn : n ≤ 511) (h : INV μ) (m : nMV n μ) : gN3 a1 a2 a3 a4 a5 μ (fun μ2 => INV μ2 ∧ nMV (n + 1) μ2) := by
  obtain ⟨v, m1, m2, e1, e2, b⟩ := h.plan
  exact ⟨v, v, m1, m2, e1, e2, b, m.pln h hn e1 e2⟩
theorem st_4 (a1 a2 a3 a4 a5 : Int32) {n : Nat} {μ : gM} (hn : n ≤ 511) (h : INV μ) (m : nMV n μ) : gN4 a1 a2 a3 a4 a5 μ (fun μ2 => INV μ2 ∧ nMV (n + 1) μ2) := by
  obtain ⟨v, m2, e1, e2, b⟩ := h.fault (a1 := a1)
  exact ⟨v, v, m2, e1, e2, b, m.rq (qX12_fault (m := μ) (RQ.rf _) _ e2)⟩
theorem st_5 (a1 a2 a3 a4 a5 : Int32) {n : Nat} {μ : gM} (hn : n ≤ 511) (h : INV μ) (m : nMV n μ) : gN5 a1 a2 a3 a4 a5 μ (fun μ2 => INV μ2 ∧ nMV (n + 1) μ2) := by
  obtain ⟨v, m2, e1, e2, b⟩ := h.has (a1 := a1)
  exact ⟨v, v, m2, e1, e2, b, m.rq (qX12_has (m := μ) (RQ.rf _) _ e2)⟩
theorem st_6 (a1 a2 a3 a4 a5 : Int32) {n : Nat} {μ : gM} (hn : n ≤ 511) (h : INV μ) (m : nMV n μ) : gN6 a1 a2 a3 a4 a5 μ (fun μ2 => INV μ2 ∧ nMV (n + 1) μ2) := by
  obtain ⟨v, m2, e1, e2, b⟩ := h.group (a1 := a1) (a2 := a2)
  exact ⟨v, v, m2, e1, e2, b, m.rq (qX12_group (m := μ) (RQ.rf _) _ e2)⟩
theorem st_7 (a1 a2 a3 a4 a5 : Int32) {n : Nat} {μ : gM} (hn : n ≤ 511) (h : INV μ) (m : nMV n μ) : gN7 a1 a2 a3 a4 a5 μ (fun μ2 => INV μ2 ∧ nMV (n + 1) μ2) := by
  obtain ⟨v, m2, e1, e2, b⟩ := h.member (a1 := a1) (a2 := a2) (a3 := a3)
  exact ⟨v, v, m2, e1, e2, b, m.rq (qX12_member (m := μ) (RQ.rf _) _ e2)⟩
theorem st_8 (a1 a2 a3 a4 a5 : Int32) {n : Nat} {μ : gM} (hn : n ≤ 511) (h : INV μ) (m : nMV n μ) : gN8 a1 a2 a3 a4 a5 μ (fun μ2 => INV μ2 ∧ nMV (n + 1) μ2) := by
  obtain ⟨v, m2, e1, e2, b⟩ := h.letter (a1 := a1) (a2 := a2) (a3 := a3)
  exact ⟨v, v, m2, e1, e2, b, m.rq (qX12_letter (m := μ) (RQ.rf _) _ e2)⟩
theorem st_9 (a1 a2 a3 a4 a5 : Int32) {n : Nat} {μ : gM} (hn : n ≤ 511) (h : INV μ) (m : nMV n μ) : gN9 a1 a2 a3 a4 a5 μ (fun μ2 => INV μ2 ∧ nMV (n + 1) μ2) := by
  obtain ⟨v, m2, e1, e2, b⟩ := h.track (a1 := a1) (a2 := a2)
  exact ⟨v, v, m2, e1, e2, b, m.rq (qX12_track (m := μ) (RQ.rf _) _ e2)⟩
theorem st_10 (a1 a2 a3 a4 a5 : Int32) {n : Nat} {μ : gM} (hn : n ≤ 511) (h : INV μ) (m : nMV n μ) : gN10 a1 a2 a3 a4 a5 μ (fun μ2 => INV μ2 ∧ nMV (n + 1) μ2) := by
  obtain ⟨v, m2, e1, e2, b⟩ := h.event (a1 := a1) (a2 := a2)
  exact ⟨v, v, m2, e1, e2, b, m.rq (qX12_event (m := μ) (RQ.rf _) _ e2)⟩
theorem st_11 (a1 a2 a3 a4 a5 : Int32) {n : Nat} {μ : gM} (hn : n ≤ 511) (h : INV μ) (m : nMV n μ) : gN11 a1 a2 a3 a4 a5 μ (fun μ2 => INV μ2 ∧ nMV (n + 1) μ2) := by
  obtain ⟨v, m1, m2, e1, e2, b0⟩ := h.ticks (a1 := a1)
  exact ⟨v, v, m1, m2, e1, e2, b0, m.act (f := fX11_ticks a1 μ) (g := fun ν => fX12_ticks a1 ν) h hn e1 e2 (tX11_ticks h.1.1.1) (oX12_ticks (m := m1) (PQ.rf _) _ e2) (fun d => d_ticks d) (fun n cn cl cg ct c cnt E ls c1 c2 b nE => na_ticks lq_all_t ls c1 c2 b nE e2)⟩
theorem st_12 (a1 a2 a3 a4 a5 : Int32) {n : Nat} {μ : gM} (hn : n ≤ 511) (h : INV μ) (m : nMV n μ) : gN12 a1 a2 a3 a4 a5 μ (fun μ2 => INV μ2 ∧ nMV (n + 1) μ2) := by
  obtain ⟨v, m1, m2, e1, e2, b0⟩ := h.up (a1 := a1)
  exact ⟨v, v, m1, m2, e1, e2, b0, m.act (f := fX11_up a1 μ) (g := fun ν => fX12_up a1 ν) h hn e1 e2 (tX11_up h.1.1.1) (oX12_up (m := m1) (PQ.rf _) _ e2) (fun d => d_up d) (fun n cn cl cg ct c cnt E ls c1 c2 b nE => na_up ls c1 c2 b nE e2)⟩
theorem st_13 (a1 a2 a3 a4 a5 : Int32) {n : Nat} {μ : gM} (hn : n ≤ 511) (h : INV μ) (m : nMV n μ) : gN13 a1 a2 a3 a4 a5 μ (fun μ2 => INV μ2 ∧ nMV (n + 1) μ2) := by
  have hb : (if a2 = 0 then 0 else 1) = (0 : Int32) ∨ (if a2 = 0 then 0 else 1) = (1 : Int32) := by split; exact Or.inl rfl; exact Or.inr rfl
  obtain ⟨v, m1, m2, e1, e2, b0⟩ := h.down (a1 := a1) (a2 := (if a2 = 0 then 0 else 1)) hb
  exact ⟨v, v, m1, m2, e1, e2, b0, m.act (f := fX11_down a1 (if a2 = 0 then 0 else 1) μ) (g := fun ν => fX12_down a1 (if a2 = 0 then 0 else 1) ν) h hn e1 e2 (tX11_down h.1.1.1) (oX12_down (m := m1) (PQ.rf _) _ e2) (fun d => d_down d) (fun n cn cl cg ct c cnt E ls c1 c2 b nE => na_down ls c1 c2 b hb e2)⟩
theorem st_14 (a1 a2 a3 a4 a5 : Int32) {n : Nat} {μ : gM} (hn : n ≤ 511) (h : INV μ) (m : nMV n μ) : gN14 a1 a2 a3 a4 a5 μ (fun μ2 => INV μ2 ∧ nMV (n + 1) μ2) := by
  obtain ⟨v, m1, m2, e1, e2, b0⟩ := h.cut (a1 := a1) (a2 := (if a2 = 0 then 0 else 1))
  exact ⟨v, v, m1, m2, e1, e2, b0, m.act (f := fX11_cut a1 (if a2 = 0 then 0 else 1) μ) (g := fun ν => fX12_cut a1 (if a2 = 0 then 0 else 1) ν) h hn e1 e2 (tX11_cut h.1.1.1) (oX12_cut (m := m1) (PQ.rf _) _ e2) (fun d => d_cut d) (fun n cn cl cg ct c cnt E ls c1 c2 b nE => na_cut c1 c2 b e2)⟩
theorem st_15 (a1 a2 a3 a4 a5 : Int32) {n : Nat} {μ : gM} (hn : n ≤ 511) (h : INV μ) (m : nMV n μ) : gN15 a1 a2 a3 a4 a5 μ (fun μ2 => INV μ2 ∧ nMV (n + 1) μ2) := by
  obtain ⟨v, m1, m2, e1, e2, b0⟩ := h.split (a1 := a1)
  exact ⟨v, v, m1, m2, e1, e2, b0, m.act (f := fX11_split a1 μ) (g := fun ν => fX12_split a1 ν) h hn e1 e2 (tX11_split h.1.1.1) (oX12_split (m := m1) (PQ.rf _) _ e2) (fun d => d_split d) (fun n cn cl cg ct c cnt E ls c1 c2 b nE => na_split c1 c2 b e2)⟩
theorem st_16 (a1 a2 a3 a4 a5 : Int32) {n : Nat} {μ : gM} (hn : n ≤ 511) (h : INV μ) (m : nMV n μ) : gN16 a1 a2 a3 a4 a5 μ (fun μ2 => INV μ2 ∧ nMV (n + 1) μ2) := by
  obtain ⟨v, m1, m2, e1, e2, b0⟩ := h.word (a1 := a1) (a2 := a2) (a3 := a3)
  exact ⟨v, v, m1, m2, e1, e2, b0, m.act (f := fX11_word a1 a2 a3 μ) (g := fun ν => fX12_word a1 a2 a3 ν) h hn e1 e2 (tX11_word h.1.1.1) (oX12_word (m := m1) (PQ.rf _) _ e2) (fun d => d_word d) (fun n cn cl cg ct c cnt E ls c1 c2 b nE => na_word ls c1 c2 b e2)⟩
theorem st_17 (a1 a2 a3 a4 a5 : Int32) {n : Nat} {μ : gM} (hn : n ≤ 511) (h : INV μ) (m : nMV n μ) : gN17 a1 a2 a3 a4 a5 μ (fun μ2 => INV μ2 ∧ nMV (n + 1) μ2) := by
  obtain ⟨v, m1, m2, e1, e2, b0⟩ := h.chance (a1 := a1) (a2 := a2)
  exact ⟨v, v, m1, m2, e1, e2, b0, m.act (f := fX11_chance a1 a2 μ) (g := fun ν => fX12_chance a1 a2 ν) h hn e1 e2 (tX11_chance h.1.1.1) (oX12_chance (m := m1) (PQ.rf _) _ e2) (fun d => d_chance d) (fun n cn cl cg ct c cnt E ls c1 c2 b nE => na_chance c1 c2 b e2)⟩
theorem st_18 (a1 a2 a3 a4 a5 : Int32) {n : Nat} {μ : gM} (hn : n ≤ 511) (h : INV μ) (m : nMV n μ) : gN18 a1 a2 a3 a4 a5 μ (fun μ2 => INV μ2 ∧ nMV (n + 1) μ2) := by
  obtain ⟨v, m2, e1, e2, b⟩ := h.holder (a1 := a1) (a2 := a2)
  exact ⟨v, v, m2, e1, e2, b, m.rq (qX12_holder (m := μ) (RQ.rf _) _ e2)⟩
theorem st_19 (a1 a2 a3 a4 a5 : Int32) {n : Nat} {μ : gM} (hn : n ≤ 511) (h : INV μ) (m : nMV n μ) : gN19 a1 a2 a3 a4 a5 μ (fun μ2 => INV μ2 ∧ nMV (n + 1) μ2) := by
  obtain ⟨v, m2, e1, e2, b⟩ := h.doubles 
  exact ⟨v, v, m2, e1, e2, b, m.rq (qX12_doubles (m := μ) (RQ.rf _) _ e2)⟩
theorem st_20 (a1 a2 a3 a4 a5 : Int32) {n : Nat} {μ : gM} (hn : n ≤ 511) (h : INV μ) (m : nMV n μ) : gN20 a1 a2 a3 a4 a5 μ (fun μ2 => INV μ2 ∧ nMV (n + 1) μ2) := by
  obtain ⟨v, m2, e1, e2, b⟩ := h.orphans 
  exact ⟨v, v, m2, e1, e2, b, m.rq (qX12_orphans (m := μ) (RQ.rf _) _ e2)⟩
theorem st_21 (a1 a2 a3 a4 a5 : Int32) {n : Nat} {μ : gM} (hn : n ≤ 511) (h : INV μ) (m : nMV n μ) : gN21 a1 a2 a3 a4 a5 μ (fun μ2 => INV μ2 ∧ nMV (n + 1) μ2) := by
  obtain ⟨v, m2, e1, e2, b⟩ := h.holds (a1 := a1)
  exact ⟨v, v, m2, e1, e2, b, m.rq (qX12_holds (m := μ) (RQ.rf _) _ e2)⟩
theorem st_22 (a1 a2 a3 a4 a5 : Int32) {n : Nat} {μ : gM} (hn : n ≤ 511) (h : INV μ) (m : nMV n μ) : gN22 a1 a2 a3 a4 a5 μ (fun μ2 => INV μ2 ∧ nMV (n + 1) μ2) := by
  obtain ⟨v, m1, m2, e1, e2, b⟩ := h.slot (a1 := a1) (a2 := a2) (a3 := a3)
  exact ⟨v, v, m1, m2, e1, e2, b, (m.cls (xJ (tX11_slot h.1.1.1) e1)).rq (qX12_slot (m := m1) (RQ.rf _) _ e2)⟩
theorem st_23 (a1 a2 a3 a4 a5 : Int32) {n : Nat} {μ : gM} (hn : n ≤ 511) (h : INV μ) (m : nMV n μ) : gN23 a1 a2 a3 a4 a5 μ (fun μ2 => INV μ2 ∧ nMV (n + 1) μ2) := by
  obtain ⟨v, m1, m2, e1, e2, b⟩ := h.slots (a1 := a1) (a2 := a2)
  exact ⟨v, v, m1, m2, e1, e2, b, (m.cls (xJ (tX11_slots h.1.1.1) e1)).rq (qX12_slots (m := m1) (RQ.rf _) _ e2)⟩
theorem st_24 (a1 a2 a3 a4 a5 : Int32) {n : Nat} {μ : gM} (hn : n ≤ 511) (h : INV μ) (m : nMV n μ) : gN24 a1 a2 a3 a4 a5 μ (fun μ2 => INV μ2 ∧ nMV (n + 1) μ2) := by
  obtain ⟨v, m1, m2, e1, e2, b⟩ := h.host (a1 := a1) (a2 := a2) (a3 := a3)
  exact ⟨v, v, m1, m2, e1, e2, b, (m.cls (xJ (tX11_host h.1.1.1) e1)).rq (qX12_host (m := m1) (RQ.rf _) _ e2)⟩
theorem st_25 (a1 a2 a3 a4 a5 : Int32) {n : Nat} {μ : gM} (hn : n ≤ 511) (h : INV μ) (m : nMV n μ) : gN25 a1 a2 a3 a4 a5 μ (fun μ2 => INV μ2 ∧ nMV (n + 1) μ2) := by
  obtain ⟨v, m1, m2, e1, e2, b⟩ := h.load (a1 := a1) (a2 := a2) (a3 := a3)
  exact ⟨v, v, m1, m2, e1, e2, b, (m.cls (xJ (tX11_load h.1.1.1) e1)).rq (qX12_load (m := m1) (RQ.rf _) _ e2)⟩
theorem st_26 (a1 a2 a3 a4 a5 : Int32) {n : Nat} {μ : gM} (hn : n ≤ 511) (h : INV μ) (m : nMV n μ) : gN26 a1 a2 a3 a4 a5 μ (fun μ2 => INV μ2 ∧ nMV (n + 1) μ2) := by
  obtain ⟨v, m1, m2, e1, e2, b0⟩ := h.ahead (a1 := a1) (a2 := a2)
  exact ⟨v, v, m1, m2, e1, e2, b0, m.act (f := fX11_ahead a1 a2 μ) (g := fun ν => fX12_ahead a1 a2 ν) h hn e1 e2 (tX11_ahead h.1.1.1) (oX12_ahead (m := m1) (PQ.rf _) _ e2) (fun d => d_ahead d) (fun n cn cl cg ct c cnt E ls c1 c2 b nE => nAE.rb (nd_ahead lq_all_t ls e2) b (rX12_ahead (m := m1) (RB.rf _) _ e2))⟩
theorem st_27 (a1 a2 a3 a4 a5 : Int32) {n : Nat} {μ : gM} (hn : n ≤ 511) (h : INV μ) (m : nMV n μ) : gN27 a1 a2 a3 a4 a5 μ (fun μ2 => INV μ2 ∧ nMV (n + 1) μ2) := by
  obtain ⟨v, m1, m2, e1, e2, b0⟩ := h.fails (a1 := a1) (a2 := a2) (a3 := a3)
  exact ⟨v, v, m1, m2, e1, e2, b0, m.act (f := fX11_fails a1 a2 a3 μ) (g := fun ν => fX12_fails a1 a2 a3 ν) h hn e1 e2 (tX11_fails h.1.1.1) (oX12_fails (m := m1) (PQ.rf _) _ e2) (fun d => d_fails d) (fun n cn cl cg ct c cnt E ls c1 c2 b nE => nAE.rb (nd_fails lq_all_t ls e2) b (rX12_fails (m := m1) (RB.rf _) _ e2))⟩
theorem st_28 (a1 a2 a3 a4 a5 : Int32) {n : Nat} {μ : gM} (hn : n ≤ 511) (h : INV μ) (m : nMV n μ) : gN28 a1 a2 a3 a4 a5 μ (fun μ2 => INV μ2 ∧ nMV (n + 1) μ2) := by
  obtain ⟨v, m1, m2, e1, e2, b0⟩ := h.worst (a1 := a1) (a2 := a2)
  exact ⟨v, v, m1, m2, e1, e2, b0, m.act (f := fX11_worst a1 a2 μ) (g := fun ν => fX12_worst a1 a2 ν) h hn e1 e2 (tX11_worst h.1.1.1) (oX12_worst (m := m1) (PQ.rf _) _ e2) (fun d => d_worst d) (fun n cn cl cg ct c cnt E ls c1 c2 b nE => nAE.rb (nd_worst lq_all_t ls e2) b (rX12_worst (m := m1) (RB.rf _) _ e2))⟩
theorem st_29 (a1 a2 a3 a4 a5 : Int32) {n : Nat} {μ : gM} (hn : n ≤ 511) (h : INV μ) (m : nMV n μ) : gN29 a1 a2 a3 a4 a5 μ (fun μ2 => INV μ2 ∧ nMV (n + 1) μ2) := by
  obtain ⟨v, m1, m2, e1, e2, b0⟩ := h.settlesV lq_all_t m hn
  exact ⟨v, m1, m2, e1, e2, b0, m.act (f := fX11_settles μ) (g := fun ν => fX12_settles ν) h hn e1 e2 (tX11_settles h.1.1.1) (oX12_settles (m := m1) (PQ.rf _) _ e2) (fun d => d_settles d) (fun n cn cl cg ct c cnt E ls c1 c2 b nE => nAE.rb (nd_settles lq_all_t ls e2) b (rX12_settles (m := m1) (RB.rf _) _ e2))⟩
theorem st_30 (a1 a2 a3 a4 a5 : Int32) {n : Nat} {μ : gM} (hn : n ≤ 511) (h : INV μ) (m : nMV n μ) : gN30 a1 a2 a3 a4 a5 μ (fun μ2 => INV μ2 ∧ nMV (n + 1) μ2) := by
  obtain ⟨v, m1, m2, e1, e2, b⟩ := h.least (a1 := a1) (a2 := a2)
  exact ⟨v, v, m1, m2, e1, e2, b, m.hvy lq_all_t h hn e1 e2⟩
theorem st_31 (a1 a2 a3 a4 a5 : Int32) {n : Nat} {μ : gM} (hn : n ≤ 511) (h : INV μ) (m : nMV n μ) : gN31 a1 a2 a3 a4 a5 μ (fun μ2 => INV μ2 ∧ nMV (n + 1) μ2) := by
  obtain ⟨v, m1, m2, e1, e2, b0⟩ := h.flaps (a1 := a1) (a2 := a2)
  exact ⟨v, v, m1, m2, e1, e2, b0, m.act (f := fX11_flaps a1 a2 μ) (g := fun ν => fX12_flaps a1 a2 ν) h hn e1 e2 (tX11_flaps h.1.1.1) (oX12_flaps (m := m1) (PQ.rf _) _ e2) (fun d => d_flaps d) (fun n cn cl cg ct c cnt E ls c1 c2 b nE => nAE.rb (nd_flaps lq_all_t ls e2) b (rX12_flaps (m := m1) (RB.rf _) _ e2))⟩
theorem st_32 (a1 a2 a3 a4 a5 : Int32) {n : Nat} {μ : gM} (hn : n ≤ 511) (h : INV μ) (m : nMV n μ) : gN32 a1 a2 a3 a4 a5 μ (fun μ2 => INV μ2 ∧ nMV (n + 1) μ2) := by
  obtain ⟨v, m1, m2, e1, e2, b0⟩ := h.needs (a1 := a1) (a2 := a2)
  exact ⟨v, v, m1, m2, e1, e2, b0, m.act (f := fX11_needs a1 a2 μ) (g := fun ν => fX12_needs a1 a2 ν) h hn e1 e2 (tX11_needs h.1.1.1) (oX12_needs (m := m1) (PQ.rf _) _ e2) (fun d => d_needs d) (fun n cn cl cg ct c cnt E ls c1 c2 b nE => nAE.rb (nd_needs lq_all_t ls e2) b (rX12_needs (m := m1) (RB.rf _) _ e2))⟩
theorem st_33 (a1 a2 a3 a4 a5 : Int32) {n : Nat} {μ : gM} (hn : n ≤ 511) (h : INV μ) (m : nMV n μ) : gN33 a1 a2 a3 a4 a5 μ (fun μ2 => INV μ2 ∧ nMV (n + 1) μ2) := by
  obtain ⟨v, m1, m2, e1, e2, b0⟩ := h.letters (a1 := a1)
  exact ⟨v, v, m1, m2, e1, e2, b0, m.act (f := fX11_letters a1 μ) (g := fun ν => fX12_letters a1 ν) h hn e1 e2 (tX11_letters h.1.1.1) (oX12_letters (m := m1) (PQ.rf _) _ e2) (fun d => d_letters d) (fun n cn cl cg ct c cnt E ls c1 c2 b nE => nAE.rb (nd_letters lq_all_t ls e2) b (rX12_letters (m := m1) (RB.rf _) _ e2))⟩
theorem st_34 (a1 a2 a3 a4 a5 : Int32) {n : Nat} {μ : gM} (hn : n ≤ 511) (h : INV μ) (m : nMV n μ) : gN34 a1 a2 a3 a4 a5 μ (fun μ2 => INV μ2 ∧ nMV (n + 1) μ2) := by
  obtain ⟨v, m1, m2, e1, e2, b0⟩ := h.stands (a1 := a1) (a2 := a2) (a3 := a3)
  exact ⟨v, v, m1, m2, e1, e2, b0, m.act (f := fX11_stands a1 a2 a3 μ) (g := fun ν => fX12_stands a1 a2 a3 ν) h hn e1 e2 (tX11_stands h.1.1.1) (oX12_stands (m := m1) (PQ.rf _) _ e2) (fun d => d_stands d) (fun n cn cl cg ct c cnt E ls c1 c2 b nE => nAE.rb (nd_stands lq_all_t ls e2) b (rX12_stands (m := m1) (RB.rf _) _ e2))⟩
theorem st_35 (a1 a2 a3 a4 a5 : Int32) {n : Nat} {μ : gM} (hn : n ≤ 511) (h : INV μ) (m : nMV n μ) : gN35 a1 a2 a3 a4 a5 μ (fun μ2 => INV μ2 ∧ nMV (n + 1) μ2) := by
  obtain ⟨v, m1, m2, e1, e2, b0⟩ := h.returns (a1 := a1) (a2 := a2)
  exact ⟨v, v, m1, m2, e1, e2, b0, m.act (f := fX11_returns a1 a2 μ) (g := fun ν => fX12_returns a1 a2 ν) h hn e1 e2 (tX11_returns h.1.1.1) (oX12_returns (m := m1) (PQ.rf _) _ e2) (fun d => d_returns d) (fun n cn cl cg ct c cnt E ls c1 c2 b nE => nAE.rb (nd_returns lq_all_t ls e2) b (rX12_returns (m := m1) (RB.rf _) _ e2))⟩
theorem st_36 (a1 a2 a3 a4 a5 : Int32) {n : Nat} {μ : gM} (hn : n ≤ 511) (h : INV μ) (m : nMV n μ) : gN36 a1 a2 a3 a4 a5 μ (fun μ2 => INV μ2 ∧ nMV (n + 1) μ2) := by
  obtain ⟨v, m1, m2, e1, e2, b0⟩ := h.under (a1 := a1) (a2 := a2) (a3 := a3)
  exact ⟨v, v, m1, m2, e1, e2, b0, m.act (f := fX11_under a1 a2 a3 μ) (g := fun ν => fX12_under a1 a2 a3 ν) h hn e1 e2 (tX11_under h.1.1.1) (oX12_under (m := m1) (PQ.rf _) _ e2) (fun d => d_under d) (fun n cn cl cg ct c cnt E ls c1 c2 b nE => nAE.rb (nd_under lq_all_t ls e2) b (rX12_under (m := m1) (RB.rf _) _ e2))⟩
theorem st_37 (a1 a2 a3 a4 a5 : Int32) {n : Nat} {μ : gM} (hn : n ≤ 511) (h : INV μ) (m : nMV n μ) : gN37 a1 a2 a3 a4 a5 μ (fun μ2 => INV μ2 ∧ nMV (n + 1) μ2) := by
  obtain ⟨v, m2, e1, e2, b⟩ := h.rank (a1 := a1) (a2 := a2)
  exact ⟨v, v, m2, e1, e2, b, m.rq (qX12_rank (m := μ) (RQ.rf _) _ e2)⟩
theorem st_38 (a1 a2 a3 a4 a5 : Int32) {n : Nat} {μ : gM} (hn : n ≤ 511) (h : INV μ) (m : nMV n μ) : gN38 a1 a2 a3 a4 a5 μ (fun μ2 => INV μ2 ∧ nMV (n + 1) μ2) := by
  obtain ⟨v, m2, e1, e2, b⟩ := h.log (a1 := a1) (a2 := a2)
  exact ⟨v, v, m2, e1, e2, b, m.rq (qX12_log (m := μ) (RQ.rf _) _ e2)⟩
theorem st_39 (a1 a2 a3 a4 a5 : Int32) {n : Nat} {μ : gM} (hn : n ≤ 511) (h : INV μ) (m : nMV n μ) : gN39 a1 a2 a3 a4 a5 μ (fun μ2 => INV μ2 ∧ nMV (n + 1) μ2) := by
  obtain ⟨v, m1, m2, e1, e2, b0⟩ := h.undo 
  exact ⟨v, v, m1, m2, e1, e2, b0, m.act (f := fX11_undo μ) (g := fun ν => fX12_undo ν) h hn e1 e2 (tX11_undo h.1.1.1) (oX12_undo (m := m1) (PQ.rf _) _ e2) (fun d => d_undo d) (fun n cn cl cg ct c cnt E ls c1 c2 b nE => na_undo c1 c2 b e2)⟩
theorem st_40 (a1 a2 a3 a4 a5 : Int32) {n : Nat} {μ : gM} (hn : n ≤ 511) (h : INV μ) (m : nMV n μ) : gN40 a1 a2 a3 a4 a5 μ (fun μ2 => INV μ2 ∧ nMV (n + 1) μ2) := by
  obtain ⟨v, m1, m2, e1, e2, b0⟩ := h.keep (a1 := a1)
  exact ⟨v, v, m1, m2, e1, e2, b0, m.act (f := fX11_keep a1 μ) (g := fun ν => fX12_keep a1 ν) h hn e1 e2 (tX11_keep h.1.1.1) (oX12_keep (m := m1) (PQ.rf _) _ e2) (fun d => d_keep d) (fun n cn cl cg ct c cnt E ls c1 c2 b nE => na_keep b e2)⟩
theorem st_41 (a1 a2 a3 a4 a5 : Int32) {n : Nat} {μ : gM} (hn : n ≤ 511) (h : INV μ) (m : nMV n μ) : gN41 a1 a2 a3 a4 a5 μ (fun μ2 => INV μ2 ∧ nMV (n + 1) μ2) := by
  obtain ⟨v, m1, m2, e1, e2, b0⟩ := h.back (a1 := a1)
  exact ⟨v, v, m1, m2, e1, e2, b0, m.act (f := fX11_back a1 μ) (g := fun ν => fX12_back a1 ν) h hn e1 e2 (tX11_back h.1.1.1) (oX12_back (m := m1) (PQ.rf _) _ e2) (fun d => d_back d) (fun n cn cl cg ct c cnt E ls c1 c2 b nE => na_back b e2)⟩
theorem st_all (op a1 a2 a3 a4 a5 : Int32) {n : Nat} {μ : gM} (hn : n ≤ 511) (h : INV μ) (m : nMV n μ) : ∃ μ2, gS op a1 a2 a3 a4 a5 μ μ2 ∧ (INV μ2 ∧ nMV (n + 1) μ2) := gS_of (P := fun μ2 => INV μ2 ∧ nMV (n + 1) μ2) ⟨h, m.nx⟩ (st_0 a1 a2 a3 a4 a5 hn h m) (st_1 a1 a2 a3 a4 a5 hn h m) (st_2 a1 a2 a3 a4 a5 hn h m) (st_3 a1 a2 a3 a4 a5 hn h m) (st_4 a1 a2 a3 a4 a5 hn h m) (st_5 a1 a2 a3 a4 a5 hn h m) (st_6 a1 a2 a3 a4 a5 hn h m) (st_7 a1 a2 a3 a4 a5 hn h m) (st_8 a1 a2 a3 a4 a5 hn h m) (st_9 a1 a2 a3 a4 a5 hn h m) (st_10 a1 a2 a3 a4 a5 hn h m) (st_11 a1 a2 a3 a4 a5 hn h m) (st_12 a1 a2 a3 a4 a5 hn h m) (st_13 a1 a2 a3 a4 a5 hn h m) (st_14 a1 a2 a3 a4 a5 hn h m) (st_15 a1 a2 a3 a4 a5 hn h m) (st_16 a1 a2 a3 a4 a5 hn h m) (st_17 a1 a2 a3 a4 a5 hn h m) (st_18 a1 a2 a3 a4 a5 hn h m) (st_19 a1 a2 a3 a4 a5 hn h m) (st_20 a1 a2 a3 a4 a5 hn h m) (st_21 a1 a2 a3 a4 a5 hn h m) (st_22 a1 a2 a3 a4 a5 hn h m) (st_23 a1 a2 a3 a4 a5 hn h m) (st_24 a1 a2 a3 a4 a5 hn h m) (st_25 a1 a2 a3 a4 a5 hn h m) (st_26 a1 a2 a3 a4 a5 hn h m) (st_27 a1 a2 a3 a4 a5 hn h m) (st_28 a1 a2 a3 a4 a5 hn h m) (st_29 a1 a2 a3 a4 a5 hn h m) (st_30 a1 a2 a3 a4 a5 hn h m) (st_31 a1 a2 a3 a4 a5 hn h m) (st_32 a1 a2 a3 a4 a5 hn h m) (st_33 a1 a2 a3 a4 a5 hn h m) (st_34 a1 a2 a3 a4 a5 hn h m) (st_35 a1 a2 a3 a4 a5 hn h m) (st_36 a1 a2 a3 a4 a5 hn h m) (st_37 a1 a2 a3 a4 a5 hn h m) (st_38 a1 a2 a3 a4 a5 hn h m) (st_39 a1 a2 a3 a4 a5 hn h m) (st_40 a1 a2 a3 a4 a5 hn h m) (st_41 a1 a2 a3 a4 a5 hn h m)
