/-! frames of methods by inversion (written by gen_no.py): readers -/
def RQ (m μ : gM) : Prop := (∀ a, a ≠ 267 → a ≠ 276 → a ≠ 277 → μ a = m a) ∧ ∀ i, i ≠ 0 → μ 267 i = m 267 i
theorem RQ_up {m μ : gM} {c i : Nat} {v : Int32} (h : RQ m μ) (hc : c = 276 ∨ c = 277 ∨ (c = 267 ∧ i = 0)) : RQ m (gUp μ c i v) := ⟨fun a h1 h2 h3 => by rw [zUp_ne _ (by omega)]; exact h.1 a h1 h2 h3, fun j hj => by
  rcases hc with hc | hc | ⟨hc, ni⟩
  · rw [zUp_ne _ (by omega)]; exact h.2 j hj
  · rw [zUp_ne _ (by omega)]; exact h.2 j hj
  · subst hc ni
    rw [zUp_slot _ hj]; exact h.2 j hj⟩
theorem qX12_fault {m : gM} {a1 : Int32} {μ : gM} (h : RQ m μ) : zF Prod.snd (RQ m) (fX12_fault a1 μ) := by
  unfold fX12_fault
  exact (zF_lm (RQ_up h (Or.inr (Or.inr ⟨rfl, rfl⟩))) (fun μ1 hμ1 => (zF_ite (fun _ => (zF_some hμ1)) (fun _ => (zF_ite (fun _ => (zF_some hμ1)) (fun _ => (zF_some hμ1)))))))
theorem qX12_has {m : gM} {a1 : Int32} {μ : gM} (h : RQ m μ) : zF Prod.snd (RQ m) (fX12_has a1 μ) := by
  unfold fX12_has
  exact (zF_lm (RQ_up h (Or.inr (Or.inr ⟨rfl, rfl⟩))) (fun μ1 hμ1 => (zF_ite (fun _ => (zF_some hμ1)) (fun _ => (zF_ite (fun _ => (zF_bv (fun x3 => (zF_some hμ1)))) (fun _ => (zF_ite (fun _ => (zF_some hμ1)) (fun _ => (zF_ite (fun _ => (zF_bv (fun x6 => (zF_some hμ1)))) (fun _ => (zF_ite (fun _ => (zF_bv (fun x8 => (zF_some hμ1)))) (fun _ => (zF_ite (fun _ => (zF_some hμ1)) (fun _ => (zF_ite (fun _ => (zF_some hμ1)) (fun _ => (zF_ite (fun _ => (zF_some hμ1)) (fun _ => (zF_ite (fun _ => (zF_some hμ1)) (fun _ => (zF_ite (fun _ => (zF_some hμ1)) (fun _ => (zF_ite (fun _ => (zF_some hμ1)) (fun _ => (zF_ite (fun _ => (zF_some hμ1)) (fun _ => (zF_ite (fun _ => (zF_some hμ1)) (fun _ => (zF_ite (fun _ => (zF_some hμ1)) (fun _ => (zF_ite (fun _ => (zF_some hμ1)) (fun _ => (zF_ite (fun _ => (zF_some hμ1)) (fun _ => (zF_ite (fun _ => (zF_some hμ1)) (fun _ => (zF_some hμ1)))))))))))))))))))))))))))))))))))))
theorem qX12_group {m : gM} {a1 a2 : Int32} {μ : gM} (h : RQ m μ) : zF Prod.snd (RQ m) (fX12_group a1 a2 μ) := by
  unfold fX12_group
  exact (zF_lm (RQ_up h (Or.inr (Or.inr ⟨rfl, rfl⟩))) (fun μ1 hμ1 => (zF_bv (fun x2 => (zF_ite (fun _ => (zF_some hμ1)) (fun _ => (zF_ite (fun _ => (zF_ck (zF_some hμ1))) (fun _ => (zF_ite (fun _ => (zF_ck (zF_some hμ1))) (fun _ => (zF_ite (fun _ => (zF_ck (zF_some hμ1))) (fun _ => (zF_ite (fun _ => (zF_ck (zF_some hμ1))) (fun _ => (zF_ite (fun _ => (zF_ck (zF_some hμ1))) (fun _ => (zF_ite (fun _ => (zF_ck (zF_some hμ1))) (fun _ => (zF_ite (fun _ => (zF_ck (zF_some hμ1))) (fun _ => (zF_ite (fun _ => (zF_ck (zF_some hμ1))) (fun _ => (zF_ite (fun _ => (zF_bv (fun x20 => (zF_some hμ1)))) (fun _ => (zF_some hμ1)))))))))))))))))))))))))
theorem qX12_member {m : gM} {a1 a2 a3 : Int32} {μ : gM} (h : RQ m μ) : zF Prod.snd (RQ m) (fX12_member a1 a2 a3 μ) := by
  unfold fX12_member
  exact (zF_lm (RQ_up h (Or.inr (Or.inr ⟨rfl, rfl⟩))) (fun μ1 hμ1 => (zF_bv (fun x2 => (zF_ite (fun _ => (zF_some hμ1)) (fun _ => (zF_bv (fun x3 => (zF_ite (fun _ => (zF_ck (zF_some hμ1))) (fun _ => (zF_ite (fun _ => (zF_bv (fun x7 => (zF_some hμ1)))) (fun _ => (zF_ite (fun _ => (zF_ck (zF_some hμ1))) (fun _ => (zF_ite (fun _ => (zF_ck (zF_some hμ1))) (fun _ => (zF_ite (fun _ => (zF_ck (zF_some hμ1))) (fun _ => (zF_ite (fun _ => (zF_bv (fun x15 => (zF_some hμ1)))) (fun _ => (zF_ite (fun _ => (zF_bv (fun x17 => (zF_some hμ1)))) (fun _ => (zF_ite (fun _ => (zF_ck (zF_some hμ1))) (fun _ => (zF_some hμ1)))))))))))))))))))))))))
theorem qX12_letter_n92 {m : gM} {y3 y4 y5 : Int32} {μ : gM} (h : RQ m μ) : zF Prod.snd (RQ m) (fX12_letter_n92 y3 y4 y5 μ) := by
  unfold fX12_letter_n92
  exact (zF_ite (fun _ => (zF_some h)) (fun _ => (zF_some h)))
theorem qX12_letter_l69 {m : gM} : ∀ (n : Nat) (y3 y4 y5 : Int32) (μ : gM), RQ m μ → zF Prod.snd (RQ m) (fX12_letter_l69  n y3 y4 y5 μ) := by
  intro n
  induction n with
  | zero => intro _ _ _ μ _; exact zF_none
  | succ n ih =>
    intro y3 y4 y5 μ h
    rw [fX12_letter_l69]
    exact (zF_ite (fun _ => (qX12_letter_n92  h)) (fun _ => (zF_ite (fun _ => (qX12_letter_n92  h)) (fun _ => (zF_lv (fun x9 => (ih _ _ _ _ h)))))))
theorem qX12_letter {m : gM} {a1 a2 a3 : Int32} {μ : gM} (h : RQ m μ) : zF Prod.snd (RQ m) (fX12_letter a1 a2 a3 μ) := by
  unfold fX12_letter
  exact (zF_lm (RQ_up h (Or.inr (Or.inr ⟨rfl, rfl⟩))) (fun μ1 hμ1 => (zF_bv (fun x2 => (zF_ite (fun _ => (zF_some hμ1)) (fun _ => (zF_ck (zF_bv (fun x4 => (zF_ite (fun _ => (zF_some hμ1)) (fun _ => (zF_bv (fun x5 => (zF_ite (fun _ => (zF_some hμ1)) (fun _ => (zF_ck (zF_lv (fun x7 => (qX12_letter_l69  _ _ _ _ _ hμ1)))))))))))))))))))
theorem qX12_track {m : gM} {a1 a2 : Int32} {μ : gM} (h : RQ m μ) : zF Prod.snd (RQ m) (fX12_track a1 a2 μ) := by
  unfold fX12_track
  exact (zF_lm (RQ_up h (Or.inr (Or.inr ⟨rfl, rfl⟩))) (fun μ1 hμ1 => (zF_bv (fun x2 => (zF_ite (fun _ => (zF_some hμ1)) (fun _ => (zF_bv (fun x3 => (zF_ite (fun _ => (zF_some hμ1)) (fun _ => (zF_ck (zF_some hμ1))))))))))))
theorem qX12_event {m : gM} {a1 a2 : Int32} {μ : gM} (h : RQ m μ) : zF Prod.snd (RQ m) (fX12_event a1 a2 μ) := by
  unfold fX12_event
  exact (zF_lm (RQ_up h (Or.inr (Or.inr ⟨rfl, rfl⟩))) (fun μ1 hμ1 => (zF_bv (fun x2 => (zF_ite (fun _ => (zF_some hμ1)) (fun _ => (zF_bv (fun x3 => (zF_ite (fun _ => (zF_some hμ1)) (fun _ => (zF_ck (zF_some hμ1))))))))))))
theorem qX12_holder {m : gM} {a1 a2 : Int32} {μ : gM} (h : RQ m μ) : zF Prod.snd (RQ m) (fX12_holder a1 a2 μ) := by
  unfold fX12_holder
  exact (zF_lm (RQ_up h (Or.inr (Or.inr ⟨rfl, rfl⟩))) (fun μ1 hμ1 => (zF_bv (fun x2 => (zF_ite (fun _ => (zF_some hμ1)) (fun _ => (zF_bv (fun x3 => (zF_ite (fun _ => (zF_some hμ1)) (fun _ => (zF_bv (fun x4 => (zF_some hμ1)))))))))))))
theorem qX12_doubles_l18 {m : gM} : ∀ (n : Nat) (y1 y2 : Int32) (μ : gM), RQ m μ → zF Prod.snd (RQ m) (fX12_doubles_l18  n y1 y2 μ) := by
  intro n
  induction n with
  | zero => intro _ _ μ _; exact zF_none
  | succ n ih =>
    intro y1 y2 μ h
    rw [fX12_doubles_l18]
    exact (zF_bv (fun x2 => (zF_ite (fun _ => (zF_some h)) (fun _ => (zF_bv (fun x3 => (zF_bv (fun x4 => (zF_lv (fun x5 => (zF_lv (fun x6 => (ih _ _ _ h)))))))))))))
theorem qX12_doubles {m : gM} {μ : gM} (h : RQ m μ) : zF Prod.snd (RQ m) (fX12_doubles μ) := by
  unfold fX12_doubles
  exact (zF_lm (RQ_up h (Or.inr (Or.inr ⟨rfl, rfl⟩))) (fun μ1 hμ1 => (zF_ite (fun _ => (zF_some hμ1)) (fun _ => (qX12_doubles_l18  _ _ _ _ hμ1)))))
theorem qX12_orphans_l18 {m : gM} : ∀ (n : Nat) (y1 y2 : Int32) (μ : gM), RQ m μ → zF Prod.snd (RQ m) (fX12_orphans_l18  n y1 y2 μ) := by
  intro n
  induction n with
  | zero => intro _ _ μ _; exact zF_none
  | succ n ih =>
    intro y1 y2 μ h
    rw [fX12_orphans_l18]
    exact (zF_bv (fun x2 => (zF_ite (fun _ => (zF_some h)) (fun _ => (zF_bv (fun x3 => (zF_bv (fun x4 => (zF_lv (fun x5 => (zF_lv (fun x6 => (ih _ _ _ h)))))))))))))
theorem qX12_orphans {m : gM} {μ : gM} (h : RQ m μ) : zF Prod.snd (RQ m) (fX12_orphans μ) := by
  unfold fX12_orphans
  exact (zF_lm (RQ_up h (Or.inr (Or.inr ⟨rfl, rfl⟩))) (fun μ1 hμ1 => (zF_ite (fun _ => (zF_some hμ1)) (fun _ => (qX12_orphans_l18  _ _ _ _ hμ1)))))
theorem qX12_holds_l19 {m : gM} : ∀ (n : Nat) (y1 y2 y3 : Int32) (μ : gM), RQ m μ → zF Prod.snd (RQ m) (fX12_holds_l19  n y1 y2 y3 μ) := by
  intro n
  induction n with
  | zero => intro _ _ _ μ _; exact zF_none
  | succ n ih =>
    intro y1 y2 y3 μ h
    rw [fX12_holds_l19]
    exact (zF_bv (fun x3 => (zF_ite (fun _ => (zF_some h)) (fun _ => (zF_bv (fun x4 => (zF_bv (fun x5 => (zF_lv (fun x6 => (zF_lv (fun x7 => (ih _ _ _ _ h)))))))))))))
theorem qX12_holds {m : gM} {a1 : Int32} {μ : gM} (h : RQ m μ) : zF Prod.snd (RQ m) (fX12_holds a1 μ) := by
  unfold fX12_holds
  exact (zF_lm (RQ_up h (Or.inr (Or.inr ⟨rfl, rfl⟩))) (fun μ1 hμ1 => (zF_bv (fun x2 => (zF_ite (fun _ => (zF_some hμ1)) (fun _ => (qX12_holds_l19  _ _ _ _ _ hμ1)))))))
theorem qX12_laysSlots_l60 {m : gM} {k40 : Int32 → Int32 → Int32 → gM → Option gM} (hk40 : ∀ (u0 u1 u2 : Int32) (ν : gM), RQ m ν → zF id (RQ m) (k40 u0 u1 u2 ν)) : ∀ (n : Nat) (y1 y3 y4 y5 y6 : Int32) (μ : gM), RQ m μ → zF id (RQ m) (fX12_laysSlots_l60 k40 n y1 y3 y4 y5 y6 μ) := by
  intro n
  induction n with
  | zero => intro _ _ _ _ _ μ _; exact zF_none
  | succ n ih =>
    intro y1 y3 y4 y5 y6 μ h
    rw [fX12_laysSlots_l60]
    exact (zF_bv (fun x5 => (zF_ite (fun _ => (zF_ck (zF_lm (RQ_up h (Or.inl rfl)) (fun μ7 hμ7 => (zF_ite (fun _ => (zF_lv (fun x8 => (hk40 _ _ _ _ hμ7)))) (fun _ => (zF_ck (zF_ck (zF_lm (RQ_up hμ7 (Or.inr (Or.inl rfl))) (fun μ11 hμ11 => (zF_lv (fun x12 => (hk40 _ _ _ _ hμ11))))))))))))) (fun _ => (zF_bv (fun x14 => (zF_ite (fun _ => (zF_lv (fun x15 => (ih _ _ _ _ _ _ h)))) (fun _ => (zF_bv (fun x16 => (zF_ck (zF_ite (fun _ => (zF_lv (fun x29 => (ih _ _ _ _ _ _ h)))) (fun _ => (zF_ite (fun _ => (zF_lv (fun x18 => (ih _ _ _ _ _ _ h)))) (fun _ => (zF_bv (fun x19 => (zF_ck (zF_ck (zF_bv (fun x22 => (zF_ck (zF_ck (zF_ite (fun _ => (zF_lv (fun x25 => (ih _ _ _ _ _ _ h)))) (fun _ => (zF_lv (fun x26 => (ih _ _ _ _ _ _ h))))))))))))))))))))))))))))
theorem qX12_laysSlots_l40 {m : gM} : ∀ (n : Nat) (y1 y3 y4 : Int32) (μ : gM), RQ m μ → zF id (RQ m) (fX12_laysSlots_l40  n y1 y3 y4 μ) := by
  intro n
  induction n with
  | zero => intro _ _ _ μ _; exact zF_none
  | succ n ih =>
    intro y1 y3 y4 μ h
    rw [fX12_laysSlots_l40]
    exact (zF_ck (zF_ite (fun _ => (zF_some h)) (fun _ => (qX12_laysSlots_l60 ih _ _ _ _ _ _ _ h))))
theorem qX12_laysSlots_l16 {m : gM} : ∀ (n : Nat) (y1 y3 y4 : Int32) (μ : gM), RQ m μ → zF id (RQ m) (fX12_laysSlots_l16  n y1 y3 y4 μ) := by
  intro n
  induction n with
  | zero => intro _ _ _ μ _; exact zF_none
  | succ n ih =>
    intro y1 y3 y4 μ h
    rw [fX12_laysSlots_l16]
    exact (zF_ite (fun _ => (qX12_laysSlots_l40  _ _ _ _ _ h)) (fun _ => (zF_ck (zF_lm (RQ_up h (Or.inr (Or.inl rfl))) (fun μ35 hμ35 => (zF_lv (fun x36 => (ih _ _ _ _ hμ35))))))))
theorem qX12_laysSlots {m : gM} {a1 a2 : Int32} {μ : gM} (h : RQ m μ) : zF id (RQ m) (fX12_laysSlots a1 a2 μ) := by
  unfold fX12_laysSlots
  exact (zF_bv (fun x1 => (zF_bv (fun x2 => (zF_lv (fun x3 => (qX12_laysSlots_l16  _ _ _ _ _ h)))))))
theorem qX12_slot {m : gM} {a1 a2 a3 : Int32} {μ : gM} (h : RQ m μ) : zF Prod.snd (RQ m) (fX12_slot a1 a2 a3 μ) := by
  unfold fX12_slot
  exact (zF_lm (RQ_up h (Or.inr (Or.inr ⟨rfl, rfl⟩))) (fun μ1 hμ1 => (zF_bv (fun x2 => (zF_ite (fun _ => (zF_some hμ1)) (fun _ => (zF_bv (fun x3 => (zF_ite (fun _ => (zF_some hμ1)) (fun _ => (zF_ck (zF_bv (fun x5 => (zF_ite (fun _ => (zF_some hμ1)) (fun _ => (zF_bm (qX12_laysSlots  hμ1) (fun μ6 hμ6 => (zF_ck (zF_some hμ6)))))))))))))))))))
theorem qX12_slots {m : gM} {a1 a2 : Int32} {μ : gM} (h : RQ m μ) : zF Prod.snd (RQ m) (fX12_slots a1 a2 μ) := by
  unfold fX12_slots
  exact (zF_lm (RQ_up h (Or.inr (Or.inr ⟨rfl, rfl⟩))) (fun μ1 hμ1 => (zF_bv (fun x2 => (zF_ite (fun _ => (zF_some hμ1)) (fun _ => (zF_bv (fun x3 => (zF_ite (fun _ => (zF_some hμ1)) (fun _ => (zF_bm (qX12_laysSlots  hμ1) (fun μ4 hμ4 => (zF_ck (zF_some hμ4))))))))))))))
theorem qX12_host {m : gM} {a1 a2 a3 : Int32} {μ : gM} (h : RQ m μ) : zF Prod.snd (RQ m) (fX12_host a1 a2 a3 μ) := by
  unfold fX12_host
  exact (zF_lm (RQ_up h (Or.inr (Or.inr ⟨rfl, rfl⟩))) (fun μ1 hμ1 => (zF_bv (fun x2 => (zF_ite (fun _ => (zF_some hμ1)) (fun _ => (zF_bv (fun x3 => (zF_ite (fun _ => (zF_some hμ1)) (fun _ => (zF_ite (fun _ => (zF_bm (qX12_laysSlots  hμ1) (fun μ4 hμ4 => (zF_ck (zF_ck (zF_ck (zF_some hμ4))))))) (fun _ => (zF_some hμ1)))))))))))))
theorem qX12_load_n96 {m : gM} {k58 : Int32 → Int32 → Int32 → Int32 → Int32 → gM → Option (Int32 × gM)} (hk58 : ∀ (u0 u1 u2 u3 u4 : Int32) (ν : gM), RQ m ν → zF Prod.snd (RQ m) (k58 u0 u1 u2 u3 u4 ν)) {y2 y3 y4 y6 z0 z1 z2 : Int32} {μ : gM} (h : RQ m μ) : zF Prod.snd (RQ m) (fX12_load_n96 k58 y2 y3 y4 y6 z0 z1 z2 μ) := by
  unfold fX12_load_n96
  exact (zF_bv (fun x12 => (zF_lv (fun x13 => (zF_lv (fun x14 => (hk58 _ _ _ _ _ _ h)))))))
theorem qX12_load_l58 {m : gM} : ∀ (n : Nat) (y2 y3 y4 y5 y6 : Int32) (μ : gM), RQ m μ → zF Prod.snd (RQ m) (fX12_load_l58  n y2 y3 y4 y5 y6 μ) := by
  intro n
  induction n with
  | zero => intro _ _ _ _ _ μ _; exact zF_none
  | succ n ih =>
    intro y2 y3 y4 y5 y6 μ h
    rw [fX12_load_l58]
    exact (zF_ite (fun _ => (zF_some h)) (fun _ => (zF_ck (zF_ite (fun _ => (zF_ck (zF_ck (zF_ite (fun _ => (qX12_load_n96 ih h)) (fun _ => (qX12_load_n96 ih h)))))) (fun _ => (zF_lv (fun x9 => (ih _ _ _ _ _ _ h))))))))
theorem qX12_load {m : gM} {a1 a2 a3 : Int32} {μ : gM} (h : RQ m μ) : zF Prod.snd (RQ m) (fX12_load a1 a2 a3 μ) := by
  unfold fX12_load
  exact (zF_lm (RQ_up h (Or.inr (Or.inr ⟨rfl, rfl⟩))) (fun μ1 hμ1 => (zF_bv (fun x2 => (zF_ite (fun _ => (zF_some hμ1)) (fun _ => (zF_bv (fun x3 => (zF_ite (fun _ => (zF_some hμ1)) (fun _ => (zF_bv (fun x4 => (zF_ite (fun _ => (zF_some hμ1)) (fun _ => (zF_bm (qX12_laysSlots  hμ1) (fun μ5 hμ5 => (zF_ck (zF_lv (fun x7 => (qX12_load_l58  _ _ _ _ _ _ _ hμ5))))))))))))))))))))
theorem qX12_rank_l40 {m : gM} : ∀ (n : Nat) (y1 y2 y3 y4 y5 : Int32) (μ : gM), RQ m μ → zF Prod.snd (RQ m) (fX12_rank_l40  n y1 y2 y3 y4 y5 μ) := by
  intro n
  induction n with
  | zero => intro _ _ _ _ _ μ _; exact zF_none
  | succ n ih =>
    intro y1 y2 y3 y4 y5 μ h
    rw [fX12_rank_l40]
    exact (zF_ite (fun _ => (zF_some h)) (fun _ => (zF_ite (fun _ => (zF_some h)) (fun _ => (zF_lv (fun x6 => (zF_bv (fun x7 => (zF_lv (fun x8 => (ih _ _ _ _ _ _ h)))))))))))
theorem qX12_rank {m : gM} {a1 a2 : Int32} {μ : gM} (h : RQ m μ) : zF Prod.snd (RQ m) (fX12_rank a1 a2 μ) := by
  unfold fX12_rank
  exact (zF_lm (RQ_up h (Or.inr (Or.inr ⟨rfl, rfl⟩))) (fun μ1 hμ1 => (zF_bv (fun x2 => (zF_ite (fun _ => (zF_some hμ1)) (fun _ => (zF_ite (fun _ => (zF_ck (zF_lv (fun x4 => (zF_bv (fun x5 => (qX12_rank_l40  _ _ _ _ _ _ _ hμ1))))))) (fun _ => (zF_some hμ1)))))))))
theorem qX12_log {m : gM} {a1 a2 : Int32} {μ : gM} (h : RQ m μ) : zF Prod.snd (RQ m) (fX12_log a1 a2 μ) := by
  unfold fX12_log
  exact (zF_lm (RQ_up h (Or.inr (Or.inr ⟨rfl, rfl⟩))) (fun μ1 hμ1 => (zF_bv (fun x2 => (zF_ite (fun _ => (zF_some hμ1)) (fun _ => (zF_bv (fun x3 => (zF_ite (fun _ => (zF_some hμ1)) (fun _ => (zF_ck (zF_some hμ1))))))))))))
/-! net and tape as they were -/
def PQ (m μ : gM) : Prop := μ 269 = m 269 ∧ μ 267 2 = m 267 2 ∧ μ 267 15 = m 267 15
theorem PQ_up {m μ : gM} {c i : Nat} {v : Int32} (h : PQ m μ) (hc : c ≠ 269 ∧ (c ≠ 267 ∨ (i ≠ 2 ∧ i ≠ 15))) : PQ m (gUp μ c i v) := by
  obtain ⟨h1, h2⟩ := hc
  refine ⟨by rw [zUp_ne _ (Ne.symm h1)]; exact h.1, ?_⟩
  rcases h2 with h2 | h2
  · rw [zUp_ne _ (Ne.symm h2)]; exact h.2
  · by_cases e : c = 267
    · subst e; rw [zUp_slot _ (Ne.symm h2.1), zUp_slot _ (Ne.symm h2.2)]; exact h.2
    · rw [zUp_ne _ (Ne.symm e)]; exact h.2
theorem oX12_fault {m : gM} {a1 : Int32} {μ : gM} (h : PQ m μ) : zF Prod.snd (PQ m) (fX12_fault a1 μ) := by
  unfold fX12_fault
  exact (zF_lm (PQ_up h ⟨by decide, Or.inr (by decide)⟩) (fun μ1 hμ1 => (zF_ite (fun _ => (zF_some hμ1)) (fun _ => (zF_ite (fun _ => (zF_some hμ1)) (fun _ => (zF_some hμ1)))))))
theorem oX12_has {m : gM} {a1 : Int32} {μ : gM} (h : PQ m μ) : zF Prod.snd (PQ m) (fX12_has a1 μ) := by
  unfold fX12_has
  exact (zF_lm (PQ_up h ⟨by decide, Or.inr (by decide)⟩) (fun μ1 hμ1 => (zF_ite (fun _ => (zF_some hμ1)) (fun _ => (zF_ite (fun _ => (zF_bv (fun x3 => (zF_some hμ1)))) (fun _ => (zF_ite (fun _ => (zF_some hμ1)) (fun _ => (zF_ite (fun _ => (zF_bv (fun x6 => (zF_some hμ1)))) (fun _ => (zF_ite (fun _ => (zF_bv (fun x8 => (zF_some hμ1)))) (fun _ => (zF_ite (fun _ => (zF_some hμ1)) (fun _ => (zF_ite (fun _ => (zF_some hμ1)) (fun _ => (zF_ite (fun _ => (zF_some hμ1)) (fun _ => (zF_ite (fun _ => (zF_some hμ1)) (fun _ => (zF_ite (fun _ => (zF_some hμ1)) (fun _ => (zF_ite (fun _ => (zF_some hμ1)) (fun _ => (zF_ite (fun _ => (zF_some hμ1)) (fun _ => (zF_ite (fun _ => (zF_some hμ1)) (fun _ => (zF_ite (fun _ => (zF_some hμ1)) (fun _ => (zF_ite (fun _ => (zF_some hμ1)) (fun _ => (zF_ite (fun _ => (zF_some hμ1)) (fun _ => (zF_ite (fun _ => (zF_some hμ1)) (fun _ => (zF_some hμ1)))))))))))))))))))))))))))))))))))))
theorem oX12_group {m : gM} {a1 a2 : Int32} {μ : gM} (h : PQ m μ) : zF Prod.snd (PQ m) (fX12_group a1 a2 μ) := by
  unfold fX12_group
  exact (zF_lm (PQ_up h ⟨by decide, Or.inr (by decide)⟩) (fun μ1 hμ1 => (zF_bv (fun x2 => (zF_ite (fun _ => (zF_some hμ1)) (fun _ => (zF_ite (fun _ => (zF_ck (zF_some hμ1))) (fun _ => (zF_ite (fun _ => (zF_ck (zF_some hμ1))) (fun _ => (zF_ite (fun _ => (zF_ck (zF_some hμ1))) (fun _ => (zF_ite (fun _ => (zF_ck (zF_some hμ1))) (fun _ => (zF_ite (fun _ => (zF_ck (zF_some hμ1))) (fun _ => (zF_ite (fun _ => (zF_ck (zF_some hμ1))) (fun _ => (zF_ite (fun _ => (zF_ck (zF_some hμ1))) (fun _ => (zF_ite (fun _ => (zF_ck (zF_some hμ1))) (fun _ => (zF_ite (fun _ => (zF_bv (fun x20 => (zF_some hμ1)))) (fun _ => (zF_some hμ1)))))))))))))))))))))))))
theorem oX12_member {m : gM} {a1 a2 a3 : Int32} {μ : gM} (h : PQ m μ) : zF Prod.snd (PQ m) (fX12_member a1 a2 a3 μ) := by
  unfold fX12_member
  exact (zF_lm (PQ_up h ⟨by decide, Or.inr (by decide)⟩) (fun μ1 hμ1 => (zF_bv (fun x2 => (zF_ite (fun _ => (zF_some hμ1)) (fun _ => (zF_bv (fun x3 => (zF_ite (fun _ => (zF_ck (zF_some hμ1))) (fun _ => (zF_ite (fun _ => (zF_bv (fun x7 => (zF_some hμ1)))) (fun _ => (zF_ite (fun _ => (zF_ck (zF_some hμ1))) (fun _ => (zF_ite (fun _ => (zF_ck (zF_some hμ1))) (fun _ => (zF_ite (fun _ => (zF_ck (zF_some hμ1))) (fun _ => (zF_ite (fun _ => (zF_bv (fun x15 => (zF_some hμ1)))) (fun _ => (zF_ite (fun _ => (zF_bv (fun x17 => (zF_some hμ1)))) (fun _ => (zF_ite (fun _ => (zF_ck (zF_some hμ1))) (fun _ => (zF_some hμ1)))))))))))))))))))))))))
theorem oX12_letter_n92 {m : gM} {y3 y4 y5 : Int32} {μ : gM} (h : PQ m μ) : zF Prod.snd (PQ m) (fX12_letter_n92 y3 y4 y5 μ) := by
  unfold fX12_letter_n92
  exact (zF_ite (fun _ => (zF_some h)) (fun _ => (zF_some h)))
theorem oX12_letter_l69 {m : gM} : ∀ (n : Nat) (y3 y4 y5 : Int32) (μ : gM), PQ m μ → zF Prod.snd (PQ m) (fX12_letter_l69  n y3 y4 y5 μ) := by
  intro n
  induction n with
  | zero => intro _ _ _ μ _; exact zF_none
  | succ n ih =>
    intro y3 y4 y5 μ h
    rw [fX12_letter_l69]
    exact (zF_ite (fun _ => (oX12_letter_n92  h)) (fun _ => (zF_ite (fun _ => (oX12_letter_n92  h)) (fun _ => (zF_lv (fun x9 => (ih _ _ _ _ h)))))))
theorem oX12_letter {m : gM} {a1 a2 a3 : Int32} {μ : gM} (h : PQ m μ) : zF Prod.snd (PQ m) (fX12_letter a1 a2 a3 μ) := by
  unfold fX12_letter
  exact (zF_lm (PQ_up h ⟨by decide, Or.inr (by decide)⟩) (fun μ1 hμ1 => (zF_bv (fun x2 => (zF_ite (fun _ => (zF_some hμ1)) (fun _ => (zF_ck (zF_bv (fun x4 => (zF_ite (fun _ => (zF_some hμ1)) (fun _ => (zF_bv (fun x5 => (zF_ite (fun _ => (zF_some hμ1)) (fun _ => (zF_ck (zF_lv (fun x7 => (oX12_letter_l69  _ _ _ _ _ hμ1)))))))))))))))))))
theorem oX12_track {m : gM} {a1 a2 : Int32} {μ : gM} (h : PQ m μ) : zF Prod.snd (PQ m) (fX12_track a1 a2 μ) := by
  unfold fX12_track
  exact (zF_lm (PQ_up h ⟨by decide, Or.inr (by decide)⟩) (fun μ1 hμ1 => (zF_bv (fun x2 => (zF_ite (fun _ => (zF_some hμ1)) (fun _ => (zF_bv (fun x3 => (zF_ite (fun _ => (zF_some hμ1)) (fun _ => (zF_ck (zF_some hμ1))))))))))))
theorem oX12_event {m : gM} {a1 a2 : Int32} {μ : gM} (h : PQ m μ) : zF Prod.snd (PQ m) (fX12_event a1 a2 μ) := by
  unfold fX12_event
  exact (zF_lm (PQ_up h ⟨by decide, Or.inr (by decide)⟩) (fun μ1 hμ1 => (zF_bv (fun x2 => (zF_ite (fun _ => (zF_some hμ1)) (fun _ => (zF_bv (fun x3 => (zF_ite (fun _ => (zF_some hμ1)) (fun _ => (zF_ck (zF_some hμ1))))))))))))
theorem oX12_holder {m : gM} {a1 a2 : Int32} {μ : gM} (h : PQ m μ) : zF Prod.snd (PQ m) (fX12_holder a1 a2 μ) := by
  unfold fX12_holder
  exact (zF_lm (PQ_up h ⟨by decide, Or.inr (by decide)⟩) (fun μ1 hμ1 => (zF_bv (fun x2 => (zF_ite (fun _ => (zF_some hμ1)) (fun _ => (zF_bv (fun x3 => (zF_ite (fun _ => (zF_some hμ1)) (fun _ => (zF_bv (fun x4 => (zF_some hμ1)))))))))))))
theorem oX12_doubles_l18 {m : gM} : ∀ (n : Nat) (y1 y2 : Int32) (μ : gM), PQ m μ → zF Prod.snd (PQ m) (fX12_doubles_l18  n y1 y2 μ) := by
  intro n
  induction n with
  | zero => intro _ _ μ _; exact zF_none
  | succ n ih =>
    intro y1 y2 μ h
    rw [fX12_doubles_l18]
    exact (zF_bv (fun x2 => (zF_ite (fun _ => (zF_some h)) (fun _ => (zF_bv (fun x3 => (zF_bv (fun x4 => (zF_lv (fun x5 => (zF_lv (fun x6 => (ih _ _ _ h)))))))))))))
theorem oX12_doubles {m : gM} {μ : gM} (h : PQ m μ) : zF Prod.snd (PQ m) (fX12_doubles μ) := by
  unfold fX12_doubles
  exact (zF_lm (PQ_up h ⟨by decide, Or.inr (by decide)⟩) (fun μ1 hμ1 => (zF_ite (fun _ => (zF_some hμ1)) (fun _ => (oX12_doubles_l18  _ _ _ _ hμ1)))))
theorem oX12_orphans_l18 {m : gM} : ∀ (n : Nat) (y1 y2 : Int32) (μ : gM), PQ m μ → zF Prod.snd (PQ m) (fX12_orphans_l18  n y1 y2 μ) := by
  intro n
  induction n with
  | zero => intro _ _ μ _; exact zF_none
  | succ n ih =>
    intro y1 y2 μ h
    rw [fX12_orphans_l18]
    exact (zF_bv (fun x2 => (zF_ite (fun _ => (zF_some h)) (fun _ => (zF_bv (fun x3 => (zF_bv (fun x4 => (zF_lv (fun x5 => (zF_lv (fun x6 => (ih _ _ _ h)))))))))))))
theorem oX12_orphans {m : gM} {μ : gM} (h : PQ m μ) : zF Prod.snd (PQ m) (fX12_orphans μ) := by
  unfold fX12_orphans
  exact (zF_lm (PQ_up h ⟨by decide, Or.inr (by decide)⟩) (fun μ1 hμ1 => (zF_ite (fun _ => (zF_some hμ1)) (fun _ => (oX12_orphans_l18  _ _ _ _ hμ1)))))
theorem oX12_holds_l19 {m : gM} : ∀ (n : Nat) (y1 y2 y3 : Int32) (μ : gM), PQ m μ → zF Prod.snd (PQ m) (fX12_holds_l19  n y1 y2 y3 μ) := by
  intro n
  induction n with
  | zero => intro _ _ _ μ _; exact zF_none
  | succ n ih =>
    intro y1 y2 y3 μ h
    rw [fX12_holds_l19]
    exact (zF_bv (fun x3 => (zF_ite (fun _ => (zF_some h)) (fun _ => (zF_bv (fun x4 => (zF_bv (fun x5 => (zF_lv (fun x6 => (zF_lv (fun x7 => (ih _ _ _ _ h)))))))))))))
theorem oX12_holds {m : gM} {a1 : Int32} {μ : gM} (h : PQ m μ) : zF Prod.snd (PQ m) (fX12_holds a1 μ) := by
  unfold fX12_holds
  exact (zF_lm (PQ_up h ⟨by decide, Or.inr (by decide)⟩) (fun μ1 hμ1 => (zF_bv (fun x2 => (zF_ite (fun _ => (zF_some hμ1)) (fun _ => (oX12_holds_l19  _ _ _ _ _ hμ1)))))))
theorem oX12_laysSlots_l60 {m : gM} {k40 : Int32 → Int32 → Int32 → gM → Option gM} (hk40 : ∀ (u0 u1 u2 : Int32) (ν : gM), PQ m ν → zF id (PQ m) (k40 u0 u1 u2 ν)) : ∀ (n : Nat) (y1 y3 y4 y5 y6 : Int32) (μ : gM), PQ m μ → zF id (PQ m) (fX12_laysSlots_l60 k40 n y1 y3 y4 y5 y6 μ) := by
  intro n
  induction n with
  | zero => intro _ _ _ _ _ μ _; exact zF_none
  | succ n ih =>
    intro y1 y3 y4 y5 y6 μ h
    rw [fX12_laysSlots_l60]
    exact (zF_bv (fun x5 => (zF_ite (fun _ => (zF_ck (zF_lm (PQ_up h ⟨by decide, Or.inl (by decide)⟩) (fun μ7 hμ7 => (zF_ite (fun _ => (zF_lv (fun x8 => (hk40 _ _ _ _ hμ7)))) (fun _ => (zF_ck (zF_ck (zF_lm (PQ_up hμ7 ⟨by decide, Or.inl (by decide)⟩) (fun μ11 hμ11 => (zF_lv (fun x12 => (hk40 _ _ _ _ hμ11))))))))))))) (fun _ => (zF_bv (fun x14 => (zF_ite (fun _ => (zF_lv (fun x15 => (ih _ _ _ _ _ _ h)))) (fun _ => (zF_bv (fun x16 => (zF_ck (zF_ite (fun _ => (zF_lv (fun x29 => (ih _ _ _ _ _ _ h)))) (fun _ => (zF_ite (fun _ => (zF_lv (fun x18 => (ih _ _ _ _ _ _ h)))) (fun _ => (zF_bv (fun x19 => (zF_ck (zF_ck (zF_bv (fun x22 => (zF_ck (zF_ck (zF_ite (fun _ => (zF_lv (fun x25 => (ih _ _ _ _ _ _ h)))) (fun _ => (zF_lv (fun x26 => (ih _ _ _ _ _ _ h))))))))))))))))))))))))))))
theorem oX12_laysSlots_l40 {m : gM} : ∀ (n : Nat) (y1 y3 y4 : Int32) (μ : gM), PQ m μ → zF id (PQ m) (fX12_laysSlots_l40  n y1 y3 y4 μ) := by
  intro n
  induction n with
  | zero => intro _ _ _ μ _; exact zF_none
  | succ n ih =>
    intro y1 y3 y4 μ h
    rw [fX12_laysSlots_l40]
    exact (zF_ck (zF_ite (fun _ => (zF_some h)) (fun _ => (oX12_laysSlots_l60 ih _ _ _ _ _ _ _ h))))
theorem oX12_laysSlots_l16 {m : gM} : ∀ (n : Nat) (y1 y3 y4 : Int32) (μ : gM), PQ m μ → zF id (PQ m) (fX12_laysSlots_l16  n y1 y3 y4 μ) := by
  intro n
  induction n with
  | zero => intro _ _ _ μ _; exact zF_none
  | succ n ih =>
    intro y1 y3 y4 μ h
    rw [fX12_laysSlots_l16]
    exact (zF_ite (fun _ => (oX12_laysSlots_l40  _ _ _ _ _ h)) (fun _ => (zF_ck (zF_lm (PQ_up h ⟨by decide, Or.inl (by decide)⟩) (fun μ35 hμ35 => (zF_lv (fun x36 => (ih _ _ _ _ hμ35))))))))
theorem oX12_laysSlots {m : gM} {a1 a2 : Int32} {μ : gM} (h : PQ m μ) : zF id (PQ m) (fX12_laysSlots a1 a2 μ) := by
  unfold fX12_laysSlots
  exact (zF_bv (fun x1 => (zF_bv (fun x2 => (zF_lv (fun x3 => (oX12_laysSlots_l16  _ _ _ _ _ h)))))))
theorem oX12_slot {m : gM} {a1 a2 a3 : Int32} {μ : gM} (h : PQ m μ) : zF Prod.snd (PQ m) (fX12_slot a1 a2 a3 μ) := by
  unfold fX12_slot
  exact (zF_lm (PQ_up h ⟨by decide, Or.inr (by decide)⟩) (fun μ1 hμ1 => (zF_bv (fun x2 => (zF_ite (fun _ => (zF_some hμ1)) (fun _ => (zF_bv (fun x3 => (zF_ite (fun _ => (zF_some hμ1)) (fun _ => (zF_ck (zF_bv (fun x5 => (zF_ite (fun _ => (zF_some hμ1)) (fun _ => (zF_bm (oX12_laysSlots  hμ1) (fun μ6 hμ6 => (zF_ck (zF_some hμ6)))))))))))))))))))
theorem oX12_slots {m : gM} {a1 a2 : Int32} {μ : gM} (h : PQ m μ) : zF Prod.snd (PQ m) (fX12_slots a1 a2 μ) := by
  unfold fX12_slots
  exact (zF_lm (PQ_up h ⟨by decide, Or.inr (by decide)⟩) (fun μ1 hμ1 => (zF_bv (fun x2 => (zF_ite (fun _ => (zF_some hμ1)) (fun _ => (zF_bv (fun x3 => (zF_ite (fun _ => (zF_some hμ1)) (fun _ => (zF_bm (oX12_laysSlots  hμ1) (fun μ4 hμ4 => (zF_ck (zF_some hμ4))))))))))))))
theorem oX12_host {m : gM} {a1 a2 a3 : Int32} {μ : gM} (h : PQ m μ) : zF Prod.snd (PQ m) (fX12_host a1 a2 a3 μ) := by
  unfold fX12_host
  exact (zF_lm (PQ_up h ⟨by decide, Or.inr (by decide)⟩) (fun μ1 hμ1 => (zF_bv (fun x2 => (zF_ite (fun _ => (zF_some hμ1)) (fun _ => (zF_bv (fun x3 => (zF_ite (fun _ => (zF_some hμ1)) (fun _ => (zF_ite (fun _ => (zF_bm (oX12_laysSlots  hμ1) (fun μ4 hμ4 => (zF_ck (zF_ck (zF_ck (zF_some hμ4))))))) (fun _ => (zF_some hμ1)))))))))))))
theorem oX12_load_n96 {m : gM} {k58 : Int32 → Int32 → Int32 → Int32 → Int32 → gM → Option (Int32 × gM)} (hk58 : ∀ (u0 u1 u2 u3 u4 : Int32) (ν : gM), PQ m ν → zF Prod.snd (PQ m) (k58 u0 u1 u2 u3 u4 ν)) {y2 y3 y4 y6 z0 z1 z2 : Int32} {μ : gM} (h : PQ m μ) : zF Prod.snd (PQ m) (fX12_load_n96 k58 y2 y3 y4 y6 z0 z1 z2 μ) := by
  unfold fX12_load_n96
  exact (zF_bv (fun x12 => (zF_lv (fun x13 => (zF_lv (fun x14 => (hk58 _ _ _ _ _ _ h)))))))
theorem oX12_load_l58 {m : gM} : ∀ (n : Nat) (y2 y3 y4 y5 y6 : Int32) (μ : gM), PQ m μ → zF Prod.snd (PQ m) (fX12_load_l58  n y2 y3 y4 y5 y6 μ) := by
  intro n
  induction n with
  | zero => intro _ _ _ _ _ μ _; exact zF_none
  | succ n ih =>
    intro y2 y3 y4 y5 y6 μ h
    rw [fX12_load_l58]
    exact (zF_ite (fun _ => (zF_some h)) (fun _ => (zF_ck (zF_ite (fun _ => (zF_ck (zF_ck (zF_ite (fun _ => (oX12_load_n96 ih h)) (fun _ => (oX12_load_n96 ih h)))))) (fun _ => (zF_lv (fun x9 => (ih _ _ _ _ _ _ h))))))))
theorem oX12_load {m : gM} {a1 a2 a3 : Int32} {μ : gM} (h : PQ m μ) : zF Prod.snd (PQ m) (fX12_load a1 a2 a3 μ) := by
  unfold fX12_load
  exact (zF_lm (PQ_up h ⟨by decide, Or.inr (by decide)⟩) (fun μ1 hμ1 => (zF_bv (fun x2 => (zF_ite (fun _ => (zF_some hμ1)) (fun _ => (zF_bv (fun x3 => (zF_ite (fun _ => (zF_some hμ1)) (fun _ => (zF_bv (fun x4 => (zF_ite (fun _ => (zF_some hμ1)) (fun _ => (zF_bm (oX12_laysSlots  hμ1) (fun μ5 hμ5 => (zF_ck (zF_lv (fun x7 => (oX12_load_l58  _ _ _ _ _ _ _ hμ5))))))))))))))))))))
theorem oX12_rank_l40 {m : gM} : ∀ (n : Nat) (y1 y2 y3 y4 y5 : Int32) (μ : gM), PQ m μ → zF Prod.snd (PQ m) (fX12_rank_l40  n y1 y2 y3 y4 y5 μ) := by
  intro n
  induction n with
  | zero => intro _ _ _ _ _ μ _; exact zF_none
  | succ n ih =>
    intro y1 y2 y3 y4 y5 μ h
    rw [fX12_rank_l40]
    exact (zF_ite (fun _ => (zF_some h)) (fun _ => (zF_ite (fun _ => (zF_some h)) (fun _ => (zF_lv (fun x6 => (zF_bv (fun x7 => (zF_lv (fun x8 => (ih _ _ _ _ _ _ h)))))))))))
theorem oX12_rank {m : gM} {a1 a2 : Int32} {μ : gM} (h : PQ m μ) : zF Prod.snd (PQ m) (fX12_rank a1 a2 μ) := by
  unfold fX12_rank
  exact (zF_lm (PQ_up h ⟨by decide, Or.inr (by decide)⟩) (fun μ1 hμ1 => (zF_bv (fun x2 => (zF_ite (fun _ => (zF_some hμ1)) (fun _ => (zF_ite (fun _ => (zF_ck (zF_lv (fun x4 => (zF_bv (fun x5 => (oX12_rank_l40  _ _ _ _ _ _ _ hμ1))))))) (fun _ => (zF_some hμ1)))))))))
theorem oX12_log {m : gM} {a1 a2 : Int32} {μ : gM} (h : PQ m μ) : zF Prod.snd (PQ m) (fX12_log a1 a2 μ) := by
  unfold fX12_log
  exact (zF_lm (PQ_up h ⟨by decide, Or.inr (by decide)⟩) (fun μ1 hμ1 => (zF_bv (fun x2 => (zF_ite (fun _ => (zF_some hμ1)) (fun _ => (zF_bv (fun x3 => (zF_ite (fun _ => (zF_some hμ1)) (fun _ => (zF_ck (zF_some hμ1))))))))))))
theorem oX12_putsTo_l2 {m : gM} : ∀ (n : Nat) (y1 y2 : Int32) (μ : gM), PQ m μ → zF id (PQ m) (fX12_putsTo_l2  n y1 y2 μ) := by
  intro n
  induction n with
  | zero => intro _ _ μ _; exact zF_none
  | succ n ih =>
    intro y1 y2 μ h
    rw [fX12_putsTo_l2]
    exact (zF_ite (fun _ => (zF_some h)) (fun _ => (zF_ck (zF_ck (zF_lm (PQ_up h ⟨by decide, Or.inl (by decide)⟩) (fun μ3 hμ3 => (zF_lv (fun x4 => (ih _ _ _ hμ3)))))))))
theorem oX12_putsTo {m : gM} {a1 : Int32} {μ : gM} (h : PQ m μ) : zF id (PQ m) (fX12_putsTo a1 μ) := by
  unfold fX12_putsTo
  exact (oX12_putsTo_l2  _ _ _ _ h)
theorem oX12_toPaper {m : gM} {μ : gM} (h : PQ m μ) : zF id (PQ m) (fX12_toPaper μ) := by
  unfold fX12_toPaper
  exact (zF_bm (oX12_putsTo  h) (fun μ1 hμ1 => (zF_some hμ1)))
theorem oX12_tickGoes_l78 {m : gM} : ∀ (n : Nat) (y1 : Int32) (μ : gM), PQ m μ → zF id (PQ m) (fX12_tickGoes_l78  n y1 μ) := by
  intro n
  induction n with
  | zero => intro _ μ _; exact zF_none
  | succ n ih =>
    intro y1 μ h
    rw [fX12_tickGoes_l78]
    exact (zF_bv (fun x3 => (zF_ite (fun _ => (zF_some h)) (fun _ => (zF_lv (fun x4 => (zF_ck (zF_bv (fun x6 => (zF_bv (fun x7 => (zF_ck (zF_lm (PQ_up h ⟨by decide, Or.inl (by decide)⟩) (fun μ9 hμ9 => (zF_lv (fun x10 => (zF_ck (zF_bv (fun x12 => (zF_bv (fun x13 => (zF_ck (zF_lm (PQ_up hμ9 ⟨by decide, Or.inl (by decide)⟩) (fun μ15 hμ15 => (zF_lv (fun x16 => (ih _ _ hμ15)))))))))))))))))))))))))))
theorem oX12_isLost_n66 {m : gM} {z0 : Int32} {μ : gM} (h : PQ m μ) : zF Prod.snd (PQ m) (fX12_isLost_n66 z0 μ) := by
  unfold fX12_isLost_n66
  exact (zF_bv (fun x3 => (zF_lm (PQ_up h ⟨by decide, Or.inl (by decide)⟩) (fun μ4 hμ4 => (zF_ck (zF_some hμ4))))))
theorem oX12_isLost {m : gM} {μ : gM} (h : PQ m μ) : zF Prod.snd (PQ m) (fX12_isLost μ) := by
  unfold fX12_isLost
  exact (zF_ite (fun _ => (zF_some h)) (fun _ => (zF_lv (fun x1 => (zF_lm (PQ_up h ⟨by decide, Or.inl (by decide)⟩) (fun μ2 hμ2 => (zF_ite (fun _ => (oX12_isLost_n66  hμ2)) (fun _ => (oX12_isLost_n66  hμ2)))))))))
theorem oX12_reads_n83 {m : gM} {y1 y3 y4 : Int32} {μ : gM} (h : PQ m μ) : zF id (PQ m) (fX12_reads_n83 y1 y3 y4 μ) := by
  unfold fX12_reads_n83
  exact (zF_ck (zF_lm (PQ_up h ⟨by decide, Or.inl (by decide)⟩) (fun μ7 hμ7 => (zF_bv (fun x8 => (zF_ck (zF_lm (PQ_up hμ7 ⟨by decide, Or.inl (by decide)⟩) (fun μ10 hμ10 => (zF_some hμ10)))))))))
theorem oX12_logs_l24 {m : gM} : ∀ (n : Nat) (y1 y2 y3 y4 y5 : Int32) (μ : gM), PQ m μ → zF id (PQ m) (fX12_logs_l24  n y1 y2 y3 y4 y5 μ) := by
  intro n
  induction n with
  | zero => intro _ _ _ _ _ μ _; exact zF_none
  | succ n ih =>
    intro y1 y2 y3 y4 y5 μ h
    rw [fX12_logs_l24]
    exact (zF_ite (fun _ => (zF_lm (PQ_up h ⟨by decide, Or.inl (by decide)⟩) (fun μ3 hμ3 => (zF_lm (PQ_up hμ3 ⟨by decide, Or.inl (by decide)⟩) (fun μ4 hμ4 => (zF_lm (PQ_up hμ4 ⟨by decide, Or.inl (by decide)⟩) (fun μ5 hμ5 => (zF_lm (PQ_up hμ5 ⟨by decide, Or.inl (by decide)⟩) (fun μ6 hμ6 => (zF_lm (PQ_up hμ6 ⟨by decide, Or.inl (by decide)⟩) (fun μ7 hμ7 => (zF_some hμ7)))))))))))) (fun _ => (zF_ck (zF_ck (zF_lm (PQ_up h ⟨by decide, Or.inl (by decide)⟩) (fun μ10 hμ10 => (zF_lv (fun x11 => (ih _ _ _ _ _ _ hμ10)))))))))
theorem oX12_logs {m : gM} {a1 a2 a3 : Int32} {μ : gM} (h : PQ m μ) : zF id (PQ m) (fX12_logs a1 a2 a3 μ) := by
  unfold fX12_logs
  exact (zF_bv (fun x1 => (zF_lv (fun x2 => (oX12_logs_l24  _ _ _ _ _ _ _ h)))))
theorem oX12_toHold {m : gM} {a1 a2 : Int32} {μ : gM} (h : PQ m μ) : zF id (PQ m) (fX12_toHold a1 a2 μ) := by
  unfold fX12_toHold
  exact (zF_bv (fun x1 => (zF_ck (zF_lm (PQ_up h ⟨by decide, Or.inl (by decide)⟩) (fun μ3 hμ3 => (zF_bv (fun x4 => (zF_ck (zF_lm (PQ_up hμ3 ⟨by decide, Or.inl (by decide)⟩) (fun μ6 hμ6 => (zF_bv (fun x7 => (zF_ck (zF_lm (PQ_up hμ6 ⟨by decide, Or.inl (by decide)⟩) (fun μ9 hμ9 => (zF_lv (fun x10 => (zF_ck (zF_ck (zF_lm (PQ_up hμ9 ⟨by decide, Or.inl (by decide)⟩) (fun μ13 hμ13 => (zF_lm (PQ_up hμ13 ⟨by decide, Or.inr (by decide)⟩) (fun μ14 hμ14 => (zF_bm (oX12_logs  hμ14) (fun μ15 hμ15 => (zF_some hμ15))))))))))))))))))))))))))
theorem oX12_reads_n142 {m : gM} {y1 y3 y4 : Int32} {μ : gM} (h : PQ m μ) : zF id (PQ m) (fX12_reads_n142 y1 y3 y4 μ) := by
  unfold fX12_reads_n142
  exact (zF_ck (zF_ck (zF_ite (fun _ => (zF_bv (fun x15 => (zF_ck (zF_lm (PQ_up h ⟨by decide, Or.inl (by decide)⟩) (fun μ17 hμ17 => (zF_some hμ17))))))) (fun _ => (zF_bm (oX12_toHold  h) (fun μ18 hμ18 => (zF_some hμ18)))))))
theorem oX12_toWait {m : gM} {a1 a2 : Int32} {μ : gM} (h : PQ m μ) : zF id (PQ m) (fX12_toWait a1 a2 μ) := by
  unfold fX12_toWait
  exact (zF_bv (fun x1 => (zF_ck (zF_lm (PQ_up h ⟨by decide, Or.inl (by decide)⟩) (fun μ3 hμ3 => (zF_bv (fun x4 => (zF_bv (fun x5 => (zF_ck (zF_lm (PQ_up hμ3 ⟨by decide, Or.inl (by decide)⟩) (fun μ7 hμ7 => (zF_bv (fun x8 => (zF_ck (zF_lm (PQ_up hμ7 ⟨by decide, Or.inl (by decide)⟩) (fun μ10 hμ10 => (zF_some hμ10))))))))))))))))))
theorem oX12_reads {m : gM} {a1 a2 a3 : Int32} {μ : gM} (h : PQ m μ) : zF id (PQ m) (fX12_reads a1 a2 a3 μ) := by
  unfold fX12_reads
  exact (zF_bv (fun x1 => (zF_ck (zF_bv (fun x3 => (zF_bv (fun x4 => (zF_bv (fun x5 => (zF_ite (fun _ => (zF_ite (fun _ => (zF_ck (zF_ite (fun _ => (oX12_reads_n83  h)) (fun _ => (zF_ck (zF_ite (fun _ => (zF_ck (zF_lm (PQ_up h ⟨by decide, Or.inl (by decide)⟩) (fun μ21 hμ21 => (oX12_reads_n142  hμ21))))) (fun _ => (oX12_reads_n142  h)))))))) (fun _ => (oX12_reads_n83  h)))) (fun _ => (zF_ite (fun _ => (zF_some h)) (fun _ => (zF_lm (PQ_up h ⟨by decide, Or.inr (by decide)⟩) (fun μ25 hμ25 => (zF_bm (oX12_toWait  hμ25) (fun μ26 hμ26 => (zF_bm (oX12_logs  hμ26) (fun μ27 hμ27 => (zF_some hμ27))))))))))))))))))))
theorem oX12_groupGoes_l118 {m : gM} {k96 : Int32 → Int32 → gM → Option gM} (hk96 : ∀ (u0 u1 : Int32) (ν : gM), PQ m ν → zF id (PQ m) (k96 u0 u1 ν)) : ∀ (n : Nat) (y1 y2 y3 : Int32) (μ : gM), PQ m μ → zF id (PQ m) (fX12_groupGoes_l118 k96 n y1 y2 y3 μ) := by
  intro n
  induction n with
  | zero => intro _ _ _ μ _; exact zF_none
  | succ n ih =>
    intro y1 y2 y3 μ h
    rw [fX12_groupGoes_l118]
    exact (zF_bv (fun x5 => (zF_ite (fun _ => (zF_lv (fun x6 => (hk96 _ _ _ h)))) (fun _ => (zF_ite (fun _ => (zF_lv (fun x7 => (ih _ _ _ _ h)))) (fun _ => (zF_bv (fun x8 => (zF_ck (zF_ite (fun _ => (zF_lv (fun x10 => (ih _ _ _ _ h)))) (fun _ => (zF_bv (fun x11 => (zF_ite (fun _ => (zF_lv (fun x12 => (ih _ _ _ _ h)))) (fun _ => (zF_bp (oX12_isLost  h) (fun x13 μ14 hμ14 => (zF_ite (fun _ => (zF_bm (oX12_reads  hμ14) (fun μ16 hμ16 => (zF_lv (fun x17 => (ih _ _ _ _ hμ16)))))) (fun _ => (zF_lv (fun x15 => (ih _ _ _ _ hμ14))))))))))))))))))))))
theorem oX12_groupGoes_l96 {m : gM} : ∀ (n : Nat) (y1 y2 : Int32) (μ : gM), PQ m μ → zF id (PQ m) (fX12_groupGoes_l96  n y1 y2 μ) := by
  intro n
  induction n with
  | zero => intro _ _ μ _; exact zF_none
  | succ n ih =>
    intro y1 y2 μ h
    rw [fX12_groupGoes_l96]
    exact (zF_bv (fun x3 => (zF_ite (fun _ => (zF_some h)) (fun _ => (zF_ck (zF_ite (fun _ => (zF_lv (fun x23 => (ih _ _ _ h)))) (fun _ => (oX12_groupGoes_l118 ih _ _ _ _ _ h))))))))
theorem oX12_groupGoes_l47 {m : gM} : ∀ (n : Nat) (y1 y2 : Int32) (μ : gM), PQ m μ → zF id (PQ m) (fX12_groupGoes_l47  n y1 y2 μ) := by
  intro n
  induction n with
  | zero => intro _ _ μ _; exact zF_none
  | succ n ih =>
    intro y1 y2 μ h
    rw [fX12_groupGoes_l47]
    exact (zF_bv (fun x2 => (zF_ite (fun _ => (oX12_groupGoes_l96  _ _ _ _ h)) (fun _ => (zF_bv (fun x26 => (zF_ck (zF_ite (fun _ => (zF_lv (fun x28 => (ih _ _ _ h)))) (fun _ => (zF_bv (fun x29 => (zF_lv (fun x30 => (zF_ck (zF_ck (zF_lm (PQ_up h ⟨by decide, Or.inl (by decide)⟩) (fun μ33 hμ33 => (zF_lv (fun x34 => (ih _ _ _ hμ33))))))))))))))))))))
theorem oX12_sends_n44 {m : gM} {y1 y2 y3 : Int32} {μ : gM} (h : PQ m μ) : zF id (PQ m) (fX12_sends_n44 y1 y2 y3 μ) := by
  unfold fX12_sends_n44
  exact (zF_bv (fun x5 => (zF_ite (fun _ => (zF_some h)) (fun _ => (zF_ck (zF_ite (fun _ => (zF_bv (fun x7 => (zF_ck (zF_lm (PQ_up h ⟨by decide, Or.inl (by decide)⟩) (fun μ9 hμ9 => (zF_lm (PQ_up hμ9 ⟨by decide, Or.inl (by decide)⟩) (fun μ10 hμ10 => (zF_ck (zF_ck (zF_lm (PQ_up hμ10 ⟨by decide, Or.inl (by decide)⟩) (fun μ13 hμ13 => (zF_some hμ13))))))))))))) (fun _ => (zF_some h))))))))
theorem oX12_sends {m : gM} {a1 a2 : Int32} {μ : gM} (h : PQ m μ) : zF id (PQ m) (fX12_sends a1 a2 μ) := by
  unfold fX12_sends
  exact (zF_bv (fun x1 => (zF_ck (zF_lm (PQ_up h ⟨by decide, Or.inl (by decide)⟩) (fun μ3 hμ3 => (zF_ck (zF_ite (fun _ => (zF_ck (zF_ite (fun _ => (oX12_sends_n44  hμ3)) (fun _ => (zF_bm (oX12_toHold  hμ3) (fun μ17 hμ17 => (oX12_sends_n44  hμ17))))))) (fun _ => (oX12_sends_n44  hμ3)))))))))
theorem oX12_groupGoes_l2 {m : gM} : ∀ (n : Nat) (y1 y2 : Int32) (μ : gM), PQ m μ → zF id (PQ m) (fX12_groupGoes_l2  n y1 y2 μ) := by
  intro n
  induction n with
  | zero => intro _ _ μ _; exact zF_none
  | succ n ih =>
    intro y1 y2 μ h
    rw [fX12_groupGoes_l2]
    exact (zF_bv (fun x1 => (zF_ite (fun _ => (oX12_groupGoes_l47  _ _ _ _ h)) (fun _ => (zF_ck (zF_lm (PQ_up h ⟨by decide, Or.inl (by decide)⟩) (fun μ38 hμ38 => (zF_bv (fun x39 => (zF_ck (zF_ite (fun _ => (zF_lv (fun x41 => (ih _ _ _ hμ38)))) (fun _ => (zF_bm (oX12_sends  hμ38) (fun μ42 hμ42 => (zF_lv (fun x43 => (ih _ _ _ hμ42)))))))))))))))))
theorem oX12_groupGoes {m : gM} {a1 : Int32} {μ : gM} (h : PQ m μ) : zF id (PQ m) (fX12_groupGoes a1 μ) := by
  unfold fX12_groupGoes
  exact (oX12_groupGoes_l2  _ _ _ _ h)
theorem oX12_tickGoes_l47 {m : gM} : ∀ (n : Nat) (y1 : Int32) (μ : gM), PQ m μ → zF id (PQ m) (fX12_tickGoes_l47  n y1 μ) := by
  intro n
  induction n with
  | zero => intro _ μ _; exact zF_none
  | succ n ih =>
    intro y1 μ h
    rw [fX12_tickGoes_l47]
    exact (zF_bv (fun x1 => (zF_ite (fun _ => (zF_lm (PQ_up h ⟨by decide, Or.inl (by decide)⟩) (fun μ2 hμ2 => (oX12_tickGoes_l78  _ _ _ hμ2)))) (fun _ => (zF_bm (oX12_groupGoes  h) (fun μ18 hμ18 => (zF_lv (fun x19 => (ih _ _ hμ18)))))))))
theorem oX12_comesUp_l14 {m : gM} : ∀ (n : Nat) (y1 y2 : Int32) (μ : gM), PQ m μ → zF id (PQ m) (fX12_comesUp_l14  n y1 y2 μ) := by
  intro n
  induction n with
  | zero => intro _ _ μ _; exact zF_none
  | succ n ih =>
    intro y1 y2 μ h
    rw [fX12_comesUp_l14]
    exact (zF_bv (fun x2 => (zF_ite (fun _ => (zF_some h)) (fun _ => (zF_bv (fun x3 => (zF_ite (fun _ => (zF_lv (fun x10 => (ih _ _ _ h)))) (fun _ => (zF_bv (fun x4 => (zF_ite (fun _ => (zF_bm (oX12_toHold  h) (fun μ7 hμ7 => (zF_lv (fun x8 => (ih _ _ _ hμ7)))))) (fun _ => (zF_bm (oX12_toWait  h) (fun μ5 hμ5 => (zF_lv (fun x6 => (ih _ _ _ hμ5)))))))))))))))))
theorem oX12_comesUp {m : gM} {a1 : Int32} {μ : gM} (h : PQ m μ) : zF id (PQ m) (fX12_comesUp a1 μ) := by
  unfold fX12_comesUp
  exact (zF_lm (PQ_up h ⟨by decide, Or.inl (by decide)⟩) (fun μ1 hμ1 => (oX12_comesUp_l14  _ _ _ _ hμ1)))
theorem oX12_farewell_l12 {m : gM} : ∀ (n : Nat) (y1 y2 y3 : Int32) (μ : gM), PQ m μ → zF id (PQ m) (fX12_farewell_l12  n y1 y2 y3 μ) := by
  intro n
  induction n with
  | zero => intro _ _ _ μ _; exact zF_none
  | succ n ih =>
    intro y1 y2 y3 μ h
    rw [fX12_farewell_l12]
    exact (zF_bv (fun x2 => (zF_ite (fun _ => (zF_some h)) (fun _ => (zF_bv (fun x3 => (zF_ck (zF_ite (fun _ => (zF_bv (fun x6 => (zF_ite (fun _ => (zF_lv (fun x7 => (ih _ _ _ _ h)))) (fun _ => (zF_ck (zF_bv (fun x9 => (zF_bv (fun x10 => (zF_bv (fun x11 => (zF_ck (zF_lm (PQ_up h ⟨by decide, Or.inl (by decide)⟩) (fun μ13 hμ13 => (zF_lv (fun x14 => (ih _ _ _ _ hμ13)))))))))))))))))) (fun _ => (zF_lv (fun x5 => (ih _ _ _ _ h))))))))))))
theorem oX12_farewell {m : gM} {a1 a2 : Int32} {μ : gM} (h : PQ m μ) : zF id (PQ m) (fX12_farewell a1 a2 μ) := by
  unfold fX12_farewell
  exact (zF_lm (PQ_up h ⟨by decide, Or.inl (by decide)⟩) (fun μ1 hμ1 => (oX12_farewell_l12  _ _ _ _ _ hμ1)))
theorem oX12_goesDown_l19 {m : gM} : ∀ (n : Nat) (y1 y2 y3 y4 : Int32) (μ : gM), PQ m μ → zF Prod.snd (PQ m) (fX12_goesDown_l19  n y1 y2 y3 y4 μ) := by
  intro n
  induction n with
  | zero => intro _ _ _ _ μ _; exact zF_none
  | succ n ih =>
    intro y1 y2 y3 y4 μ h
    rw [fX12_goesDown_l19]
    exact (zF_bv (fun x2 => (zF_ite (fun _ => (zF_some h)) (fun _ => (zF_bv (fun x3 => (zF_bv (fun x4 => (zF_ck (zF_lm (PQ_up h ⟨by decide, Or.inl (by decide)⟩) (fun μ6 hμ6 => (zF_ck (zF_lm (PQ_up hμ6 ⟨by decide, Or.inl (by decide)⟩) (fun μ8 hμ8 => (zF_ck (zF_lm (PQ_up hμ8 ⟨by decide, Or.inl (by decide)⟩) (fun μ10 hμ10 => (zF_ite (fun _ => (zF_lv (fun x17 => (ih _ _ _ _ _ hμ10)))) (fun _ => (zF_lv (fun x11 => (zF_bm (oX12_logs  hμ10) (fun μ12 hμ12 => (zF_ite (fun _ => (zF_lv (fun x13 => (ih _ _ _ _ _ hμ12)))) (fun _ => (zF_bm (oX12_farewell  hμ12) (fun μ14 hμ14 => (zF_lv (fun x15 => (ih _ _ _ _ _ hμ14))))))))))))))))))))))))))))))
theorem oX12_goesDown {m : gM} {a1 a2 : Int32} {μ : gM} (h : PQ m μ) : zF Prod.snd (PQ m) (fX12_goesDown a1 a2 μ) := by
  unfold fX12_goesDown
  exact (zF_lm (PQ_up h ⟨by decide, Or.inl (by decide)⟩) (fun μ1 hμ1 => (oX12_goesDown_l19  _ _ _ _ _ _ hμ1)))
theorem oX12_happens {m : gM} {a1 : Int32} {μ : gM} (h : PQ m μ) : zF id (PQ m) (fX12_happens a1 μ) := by
  unfold fX12_happens
  exact (zF_ck (zF_lv (fun x2 => (zF_ck (zF_lv (fun x4 => (zF_ite (fun _ => (zF_bv (fun x6 => (zF_ite (fun _ => (zF_bm (oX12_comesUp  h) (fun μ7 hμ7 => (zF_some hμ7)))) (fun _ => (zF_some h)))))) (fun _ => (zF_ite (fun _ => (zF_bv (fun x10 => (zF_ite (fun _ => (zF_some h)) (fun _ => (zF_bp (oX12_goesDown  h) (fun x11 μ12 hμ12 => (zF_some hμ12)))))))) (fun _ => (zF_ite (fun _ => (zF_lm (PQ_up h ⟨by decide, Or.inl (by decide)⟩) (fun μ15 hμ15 => (zF_some hμ15)))) (fun _ => (zF_ite (fun _ => (zF_lm (PQ_up h ⟨by decide, Or.inl (by decide)⟩) (fun μ17 hμ17 => (zF_some hμ17)))) (fun _ => (zF_ite (fun _ => (zF_lm (PQ_up h ⟨by decide, Or.inl (by decide)⟩) (fun μ19 hμ19 => (zF_some hμ19)))) (fun _ => (zF_ite (fun _ => (zF_lm (PQ_up h ⟨by decide, Or.inl (by decide)⟩) (fun μ21 hμ21 => (zF_some hμ21)))) (fun _ => (zF_ck (zF_bv (fun x23 => (zF_ck (zF_ck (zF_lm (PQ_up h ⟨by decide, Or.inl (by decide)⟩) (fun μ26 hμ26 => (zF_some hμ26))))))))))))))))))))))))))
theorem oX12_tickGoes_l2 {m : gM} : ∀ (n : Nat) (y1 : Int32) (μ : gM), PQ m μ → zF id (PQ m) (fX12_tickGoes_l2  n y1 μ) := by
  intro n
  induction n with
  | zero => intro _ μ _; exact zF_none
  | succ n ih =>
    intro y1 μ h
    rw [fX12_tickGoes_l2]
    exact (zF_ite (fun _ => (oX12_tickGoes_l47  _ _ _ h)) (fun _ => (zF_ck (zF_ite (fun _ => (zF_bm (oX12_happens  h) (fun μ23 hμ23 => (zF_lv (fun x24 => (ih _ _ hμ23)))))) (fun _ => (zF_lv (fun x22 => (ih _ _ h))))))))
theorem oX12_tickGoes {m : gM} {μ : gM} (h : PQ m μ) : zF id (PQ m) (fX12_tickGoes μ) := by
  unfold fX12_tickGoes
  exact (oX12_tickGoes_l2  _ _ _ h)
theorem oX12_goes_l2 {m : gM} : ∀ (n : Nat) (y1 y2 : Int32) (μ : gM), PQ m μ → zF id (PQ m) (fX12_goes_l2  n y1 y2 μ) := by
  intro n
  induction n with
  | zero => intro _ _ μ _; exact zF_none
  | succ n ih =>
    intro y1 y2 μ h
    rw [fX12_goes_l2]
    exact (zF_ite (fun _ => (zF_some h)) (fun _ => (zF_bm (oX12_tickGoes  h) (fun μ1 hμ1 => (zF_lv (fun x2 => (ih _ _ _ hμ1)))))))
theorem oX12_goes {m : gM} {a1 : Int32} {μ : gM} (h : PQ m μ) : zF id (PQ m) (fX12_goes a1 μ) := by
  unfold fX12_goes
  exact (oX12_goes_l2  _ _ _ _ h)
theorem oX12_takesFrom_l2 {m : gM} : ∀ (n : Nat) (y1 y2 : Int32) (μ : gM), PQ m μ → zF id (PQ m) (fX12_takesFrom_l2  n y1 y2 μ) := by
  intro n
  induction n with
  | zero => intro _ _ μ _; exact zF_none
  | succ n ih =>
    intro y1 y2 μ h
    rw [fX12_takesFrom_l2]
    exact (zF_ite (fun _ => (zF_some h)) (fun _ => (zF_ck (zF_ck (zF_lm (PQ_up h ⟨by decide, Or.inl (by decide)⟩) (fun μ3 hμ3 => (zF_lv (fun x4 => (ih _ _ _ hμ3)))))))))
theorem oX12_takesFrom {m : gM} {a1 : Int32} {μ : gM} (h : PQ m μ) : zF id (PQ m) (fX12_takesFrom a1 μ) := by
  unfold fX12_takesFrom
  exact (oX12_takesFrom_l2  _ _ _ _ h)
theorem oX12_fromPaper {m : gM} {a1 : Int32} {μ : gM} (h : PQ m μ) : zF Prod.snd (PQ m) (fX12_fromPaper a1 μ) := by
  unfold fX12_fromPaper
  exact (zF_bm (oX12_takesFrom  h) (fun μ1 hμ1 => (zF_some hμ1)))
theorem oX12_ahead {m : gM} {a1 a2 : Int32} {μ : gM} (h : PQ m μ) : zF Prod.snd (PQ m) (fX12_ahead a1 a2 μ) := by
  unfold fX12_ahead
  exact (zF_lm (PQ_up h ⟨by decide, Or.inr (by decide)⟩) (fun μ1 hμ1 => (zF_bv (fun x2 => (zF_ite (fun _ => (zF_some hμ1)) (fun _ => (zF_bv (fun x3 => (zF_ite (fun _ => (zF_some hμ1)) (fun _ => (zF_bv (fun x4 => (zF_ite (fun _ => (zF_some hμ1)) (fun _ => (zF_bm (oX12_toPaper  hμ1) (fun μ5 hμ5 => (zF_bm (oX12_goes  hμ5) (fun μ6 hμ6 => (zF_bv (fun x7 => (zF_bp (oX12_fromPaper  hμ6) (fun x8 μ9 hμ9 => (zF_some hμ9)))))))))))))))))))))))
theorem oX12_failsIn_n97 {m : gM} {z0 : Int32} {μ : gM} (h : PQ m μ) : zF Prod.snd (PQ m) (fX12_failsIn_n97 z0 μ) := by
  unfold fX12_failsIn_n97
  exact (zF_bp (oX12_fromPaper  h) (fun x6 μ7 hμ7 => (zF_some hμ7)))
theorem oX12_failsIn_n83 {m : gM} {y3 : Int32} {μ : gM} (h : PQ m μ) : zF Prod.snd (PQ m) (fX12_failsIn_n83 y3 μ) := by
  unfold fX12_failsIn_n83
  exact (zF_ite (fun _ => (oX12_failsIn_n97  h)) (fun _ => (oX12_failsIn_n97  h)))
theorem oX12_failsIn_l23 {m : gM} : ∀ (n : Nat) (y1 y2 y3 : Int32) (μ : gM), PQ m μ → zF Prod.snd (PQ m) (fX12_failsIn_l23  n y1 y2 y3 μ) := by
  intro n
  induction n with
  | zero => intro _ _ _ μ _; exact zF_none
  | succ n ih =>
    intro y1 y2 y3 μ h
    rw [fX12_failsIn_l23]
    exact (zF_ite (fun _ => (zF_ite (fun _ => (oX12_failsIn_n83  h)) (fun _ => (zF_bv (fun x9 => (zF_ite (fun _ => (oX12_failsIn_n83  h)) (fun _ => (zF_bm (oX12_tickGoes  h) (fun μ10 hμ10 => (zF_lv (fun x11 => (zF_bv (fun x12 => (zF_bv (fun x13 => (zF_bv (fun x14 => (zF_lm (PQ_up hμ10 ⟨by decide, Or.inr (by decide)⟩) (fun μ15 hμ15 => (ih _ _ _ _ hμ15)))))))))))))))))))) (fun _ => (oX12_failsIn_n83  h)))
theorem oX12_failsIn {m : gM} {a1 a2 : Int32} {μ : gM} (h : PQ m μ) : zF Prod.snd (PQ m) (fX12_failsIn a1 a2 μ) := by
  unfold fX12_failsIn
  exact (zF_bm (oX12_toPaper  h) (fun μ1 hμ1 => (zF_bp (oX12_goesDown  hμ1) (fun x2 μ3 hμ3 => (zF_bv (fun x4 => (zF_lm (PQ_up hμ3 ⟨by decide, Or.inr (by decide)⟩) (fun μ5 hμ5 => (oX12_failsIn_l23  _ _ _ _ _ hμ5)))))))))
theorem oX12_fails {m : gM} {a1 a2 a3 : Int32} {μ : gM} (h : PQ m μ) : zF Prod.snd (PQ m) (fX12_fails a1 a2 a3 μ) := by
  unfold fX12_fails
  exact (zF_lm (PQ_up h ⟨by decide, Or.inr (by decide)⟩) (fun μ1 hμ1 => (zF_bv (fun x2 => (zF_ite (fun _ => (zF_some hμ1)) (fun _ => (zF_bv (fun x3 => (zF_ite (fun _ => (zF_some hμ1)) (fun _ => (zF_bv (fun x4 => (zF_ite (fun _ => (zF_some hμ1)) (fun _ => (zF_bv (fun x5 => (zF_ite (fun _ => (zF_some hμ1)) (fun _ => (zF_bp (oX12_failsIn  hμ1) (fun x6 μ7 hμ7 => (zF_ite (fun _ => (zF_some hμ7)) (fun _ => (zF_some hμ7)))))))))))))))))))))))
theorem oX12_worst_l33 {m : gM} : ∀ (n : Nat) (y1 y2 y3 y4 y5 : Int32) (μ : gM), PQ m μ → zF Prod.snd (PQ m) (fX12_worst_l33  n y1 y2 y3 y4 y5 μ) := by
  intro n
  induction n with
  | zero => intro _ _ _ _ _ μ _; exact zF_none
  | succ n ih =>
    intro y1 y2 y3 y4 y5 μ h
    rw [fX12_worst_l33]
    exact (zF_bv (fun x4 => (zF_ite (fun _ => (zF_ite (fun _ => (zF_some h)) (fun _ => (zF_some h)))) (fun _ => (zF_bv (fun x6 => (zF_ck (zF_ite (fun _ => (zF_lv (fun x15 => (ih _ _ _ _ _ _ h)))) (fun _ => (zF_bp (oX12_failsIn  h) (fun x8 μ9 hμ9 => (zF_ite (fun _ => (zF_ite (fun _ => (zF_some hμ9)) (fun _ => (zF_some hμ9)))) (fun _ => (zF_ite (fun _ => (zF_lv (fun x10 => (ih _ _ _ _ _ _ hμ9)))) (fun _ => (zF_lv (fun x11 => (ih _ _ _ _ _ _ hμ9))))))))))))))))))
theorem oX12_worst {m : gM} {a1 a2 : Int32} {μ : gM} (h : PQ m μ) : zF Prod.snd (PQ m) (fX12_worst a1 a2 μ) := by
  unfold fX12_worst
  exact (zF_lm (PQ_up h ⟨by decide, Or.inr (by decide)⟩) (fun μ1 hμ1 => (zF_bv (fun x2 => (zF_ite (fun _ => (zF_some hμ1)) (fun _ => (zF_bv (fun x3 => (zF_ite (fun _ => (zF_some hμ1)) (fun _ => (oX12_worst_l33  _ _ _ _ _ _ _ hμ1)))))))))))
theorem oX12_settles_n62 {m : gM} {k32 : Int32 → Int32 → gM → Option (Int32 × gM)} (hk32 : ∀ (u0 u1 : Int32) (ν : gM), PQ m ν → zF Prod.snd (PQ m) (k32 u0 u1 ν)) {y1 y2 : Int32} {μ : gM} (h : PQ m μ) : zF Prod.snd (PQ m) (fX12_settles_n62 k32 y1 y2 μ) := by
  unfold fX12_settles_n62
  exact (zF_ite (fun _ => (hk32 _ _ _ h)) (fun _ => (zF_bp (oX12_fromPaper  h) (fun x9 μ10 hμ10 => (zF_some hμ10)))))
theorem oX12_settles_l32 {m : gM} : ∀ (n : Nat) (y1 y2 : Int32) (μ : gM), PQ m μ → zF Prod.snd (PQ m) (fX12_settles_l32  n y1 y2 μ) := by
  intro n
  induction n with
  | zero => intro _ _ μ _; exact zF_none
  | succ n ih =>
    intro y1 y2 μ h
    rw [fX12_settles_l32]
    exact (zF_ite (fun _ => (zF_bp (oX12_fromPaper  h) (fun x4 μ5 hμ5 => (zF_some hμ5)))) (fun _ => (zF_lv (fun x6 => (zF_bm (oX12_tickGoes  h) (fun μ7 hμ7 => (zF_lv (fun x8 => (zF_ite (fun _ => (oX12_settles_n62 ih hμ7)) (fun _ => (oX12_settles_n62 ih hμ7)))))))))))
theorem oX12_settles {m : gM} {μ : gM} (h : PQ m μ) : zF Prod.snd (PQ m) (fX12_settles μ) := by
  unfold fX12_settles
  exact (zF_lm (PQ_up h ⟨by decide, Or.inr (by decide)⟩) (fun μ1 hμ1 => (zF_ite (fun _ => (zF_some hμ1)) (fun _ => (zF_bv (fun x2 => (zF_ite (fun _ => (zF_some hμ1)) (fun _ => (zF_bm (oX12_toPaper  hμ1) (fun μ3 hμ3 => (oX12_settles_l32  _ _ _ _ hμ3)))))))))))
theorem oX12_least_l32 {m : gM} : ∀ (n : Nat) (y1 y2 y3 : Int32) (μ : gM), PQ m μ → zF Prod.snd (PQ m) (fX12_least_l32  n y1 y2 y3 μ) := by
  intro n
  induction n with
  | zero => intro _ _ _ μ _; exact zF_none
  | succ n ih =>
    intro y1 y2 y3 μ h
    rw [fX12_least_l32]
    exact (zF_ite (fun _ => (zF_bp (oX12_fromPaper  h) (fun x5 μ6 hμ6 => (zF_some hμ6)))) (fun _ => (zF_bm (oX12_takesFrom  h) (fun μ7 hμ7 => (zF_bv (fun x8 => (zF_ck (zF_lm (PQ_up hμ7 ⟨by decide, Or.inl (by decide)⟩) (fun μ10 hμ10 => (zF_bm (oX12_goes  hμ10) (fun μ11 hμ11 => (zF_bv (fun x12 => (zF_ite (fun _ => (zF_lv (fun x13 => (ih _ _ _ _ hμ11)))) (fun _ => (zF_bp (oX12_fromPaper  hμ11) (fun x14 μ15 hμ15 => (zF_some hμ15))))))))))))))))))
theorem oX12_least {m : gM} {a1 a2 : Int32} {μ : gM} (h : PQ m μ) : zF Prod.snd (PQ m) (fX12_least a1 a2 μ) := by
  unfold fX12_least
  exact (zF_lm (PQ_up h ⟨by decide, Or.inr (by decide)⟩) (fun μ1 hμ1 => (zF_bv (fun x2 => (zF_ite (fun _ => (zF_some hμ1)) (fun _ => (zF_bv (fun x3 => (zF_ite (fun _ => (zF_some hμ1)) (fun _ => (zF_bm (oX12_toPaper  hμ1) (fun μ4 hμ4 => (oX12_least_l32  _ _ _ _ _ hμ4)))))))))))))
theorem oX12_flaps {m : gM} {a1 a2 : Int32} {μ : gM} (h : PQ m μ) : zF Prod.snd (PQ m) (fX12_flaps a1 a2 μ) := by
  unfold fX12_flaps
  exact (zF_lm (PQ_up h ⟨by decide, Or.inr (by decide)⟩) (fun μ1 hμ1 => (zF_bv (fun x2 => (zF_ite (fun _ => (zF_some hμ1)) (fun _ => (zF_bv (fun x3 => (zF_ite (fun _ => (zF_some hμ1)) (fun _ => (zF_bv (fun x4 => (zF_ite (fun _ => (zF_some hμ1)) (fun _ => (zF_bm (oX12_toPaper  hμ1) (fun μ5 hμ5 => (zF_ck (zF_lv (fun x7 => (zF_bm (oX12_goes  hμ5) (fun μ8 hμ8 => (zF_ck (zF_bp (oX12_fromPaper  hμ8) (fun x10 μ11 hμ11 => (zF_some hμ11)))))))))))))))))))))))))
theorem oX12_needs_n111 {m : gM} {k57 : Int32 → Int32 → Int32 → Int32 → Int32 → gM → Option (Int32 × gM)} (hk57 : ∀ (u0 u1 u2 u3 u4 : Int32) (ν : gM), PQ m ν → zF Prod.snd (PQ m) (k57 u0 u1 u2 u3 u4 ν)) {y1 y2 y3 y5 z0 z1 : Int32} {μ : gM} (h : PQ m μ) : zF Prod.snd (PQ m) (fX12_needs_n111 k57 y1 y2 y3 y5 z0 z1 μ) := by
  unfold fX12_needs_n111
  exact (zF_bv (fun x14 => (zF_lv (fun x15 => (zF_lv (fun x16 => (hk57 _ _ _ _ _ _ h)))))))
theorem oX12_needs_l57 {m : gM} : ∀ (n : Nat) (y1 y2 y3 y4 y5 : Int32) (μ : gM), PQ m μ → zF Prod.snd (PQ m) (fX12_needs_l57  n y1 y2 y3 y4 y5 μ) := by
  intro n
  induction n with
  | zero => intro _ _ _ _ _ μ _; exact zF_none
  | succ n ih =>
    intro y1 y2 y3 y4 y5 μ h
    rw [fX12_needs_l57]
    exact (zF_ite (fun _ => (zF_bp (oX12_fromPaper  h) (fun x8 μ9 hμ9 => (zF_some hμ9)))) (fun _ => (zF_bm (oX12_takesFrom  h) (fun μ10 hμ10 => (zF_lm (PQ_up hμ10 ⟨by decide, Or.inl (by decide)⟩) (fun μ11 hμ11 => (zF_bm (oX12_goes  hμ11) (fun μ12 hμ12 => (zF_bv (fun x13 => (zF_ite (fun _ => (oX12_needs_n111 ih hμ12)) (fun _ => (oX12_needs_n111 ih hμ12)))))))))))))
theorem oX12_needs {m : gM} {a1 a2 : Int32} {μ : gM} (h : PQ m μ) : zF Prod.snd (PQ m) (fX12_needs a1 a2 μ) := by
  unfold fX12_needs
  exact (zF_lm (PQ_up h ⟨by decide, Or.inr (by decide)⟩) (fun μ1 hμ1 => (zF_bv (fun x2 => (zF_ite (fun _ => (zF_some hμ1)) (fun _ => (zF_bv (fun x3 => (zF_ite (fun _ => (zF_some hμ1)) (fun _ => (zF_bv (fun x4 => (zF_ite (fun _ => (zF_some hμ1)) (fun _ => (zF_bm (oX12_toPaper  hμ1) (fun μ5 hμ5 => (zF_bm (oX12_goes  hμ5) (fun μ6 hμ6 => (zF_bv (fun x7 => (oX12_needs_l57  _ _ _ _ _ _ _ hμ6)))))))))))))))))))))
theorem oX12_letters {m : gM} {a1 : Int32} {μ : gM} (h : PQ m μ) : zF Prod.snd (PQ m) (fX12_letters a1 μ) := by
  unfold fX12_letters
  exact (zF_lm (PQ_up h ⟨by decide, Or.inr (by decide)⟩) (fun μ1 hμ1 => (zF_ite (fun _ => (zF_some hμ1)) (fun _ => (zF_bv (fun x2 => (zF_ite (fun _ => (zF_some hμ1)) (fun _ => (zF_bv (fun x3 => (zF_ite (fun _ => (zF_some hμ1)) (fun _ => (zF_bm (oX12_toPaper  hμ1) (fun μ4 hμ4 => (zF_lv (fun x5 => (zF_bm (oX12_goes  hμ4) (fun μ6 hμ6 => (zF_bp (oX12_fromPaper  hμ6) (fun x7 μ8 hμ8 => (zF_some hμ8)))))))))))))))))))))
theorem oX12_stands_l46 {m : gM} : ∀ (n : Nat) (y1 y2 y3 y4 y5 : Int32) (μ : gM), PQ m μ → zF Prod.snd (PQ m) (fX12_stands_l46  n y1 y2 y3 y4 y5 μ) := by
  intro n
  induction n with
  | zero => intro _ _ _ _ _ μ _; exact zF_none
  | succ n ih =>
    intro y1 y2 y3 y4 y5 μ h
    rw [fX12_stands_l46]
    exact (zF_ite (fun _ => (zF_bp (oX12_fromPaper  h) (fun x6 μ7 hμ7 => (zF_some hμ7)))) (fun _ => (zF_bm (oX12_tickGoes  h) (fun μ8 hμ8 => (zF_bv (fun x9 => (zF_bv (fun x10 => (zF_lv (fun x11 => (zF_lv (fun x12 => (ih _ _ _ _ _ _ hμ8)))))))))))))
theorem oX12_stands {m : gM} {a1 a2 a3 : Int32} {μ : gM} (h : PQ m μ) : zF Prod.snd (PQ m) (fX12_stands a1 a2 a3 μ) := by
  unfold fX12_stands
  exact (zF_lm (PQ_up h ⟨by decide, Or.inr (by decide)⟩) (fun μ1 hμ1 => (zF_bv (fun x2 => (zF_ite (fun _ => (zF_some hμ1)) (fun _ => (zF_bv (fun x3 => (zF_ite (fun _ => (zF_some hμ1)) (fun _ => (zF_bv (fun x4 => (zF_ite (fun _ => (zF_some hμ1)) (fun _ => (zF_bm (oX12_toPaper  hμ1) (fun μ5 hμ5 => (oX12_stands_l46  _ _ _ _ _ _ _ hμ5)))))))))))))))))
theorem oX12_returns_n84 {m : gM} {z0 : Int32} {μ : gM} (h : PQ m μ) : zF Prod.snd (PQ m) (fX12_returns_n84 z0 μ) := by
  unfold fX12_returns_n84
  exact (zF_bp (oX12_fromPaper  h) (fun x8 μ9 hμ9 => (zF_some hμ9)))
theorem oX12_returns_n69 {m : gM} {y1 y2 y3 : Int32} {μ : gM} (h : PQ m μ) : zF Prod.snd (PQ m) (fX12_returns_n69 y1 y2 y3 μ) := by
  unfold fX12_returns_n69
  exact (zF_bv (fun x7 => (zF_ite (fun _ => (oX12_returns_n84  h)) (fun _ => (oX12_returns_n84  h)))))
theorem oX12_returns_l35 {m : gM} : ∀ (n : Nat) (y1 y2 y3 : Int32) (μ : gM), PQ m μ → zF Prod.snd (PQ m) (fX12_returns_l35  n y1 y2 y3 μ) := by
  intro n
  induction n with
  | zero => intro _ _ _ μ _; exact zF_none
  | succ n ih =>
    intro y1 y2 y3 μ h
    rw [fX12_returns_l35]
    exact (zF_bv (fun x6 => (zF_ite (fun _ => (zF_ite (fun _ => (oX12_returns_n69  h)) (fun _ => (zF_bv (fun x11 => (zF_ite (fun _ => (oX12_returns_n69  h)) (fun _ => (zF_bm (oX12_tickGoes  h) (fun μ12 hμ12 => (zF_lv (fun x13 => (ih _ _ _ _ hμ12)))))))))))) (fun _ => (oX12_returns_n69  h)))))
theorem oX12_returns {m : gM} {a1 a2 : Int32} {μ : gM} (h : PQ m μ) : zF Prod.snd (PQ m) (fX12_returns a1 a2 μ) := by
  unfold fX12_returns
  exact (zF_lm (PQ_up h ⟨by decide, Or.inr (by decide)⟩) (fun μ1 hμ1 => (zF_bv (fun x2 => (zF_ite (fun _ => (zF_some hμ1)) (fun _ => (zF_bv (fun x3 => (zF_ite (fun _ => (zF_bm (oX12_toPaper  hμ1) (fun μ4 hμ4 => (zF_bm (oX12_comesUp  hμ4) (fun μ5 hμ5 => (oX12_returns_l35  _ _ _ _ _ hμ5)))))) (fun _ => (zF_some hμ1)))))))))))
theorem oX12_under {m : gM} {a1 a2 a3 : Int32} {μ : gM} (h : PQ m μ) : zF Prod.snd (PQ m) (fX12_under a1 a2 a3 μ) := by
  unfold fX12_under
  exact (zF_lm (PQ_up h ⟨by decide, Or.inr (by decide)⟩) (fun μ1 hμ1 => (zF_bv (fun x2 => (zF_ite (fun _ => (zF_some hμ1)) (fun _ => (zF_bv (fun x3 => (zF_ite (fun _ => (zF_some hμ1)) (fun _ => (zF_bv (fun x4 => (zF_ite (fun _ => (zF_some hμ1)) (fun _ => (zF_bv (fun x5 => (zF_ite (fun _ => (zF_some hμ1)) (fun _ => (zF_bm (oX12_toPaper  hμ1) (fun μ6 hμ6 => (zF_lm (PQ_up hμ6 ⟨by decide, Or.inl (by decide)⟩) (fun μ7 hμ7 => (zF_bm (oX12_goes  hμ7) (fun μ8 hμ8 => (zF_bv (fun x9 => (zF_bp (oX12_fromPaper  hμ8) (fun x10 μ11 hμ11 => (zF_some hμ11)))))))))))))))))))))))))))))
theorem oX12_keepsAct_n52 {m : gM} {μ : gM} (h : PQ m μ) : zF id (PQ m) (fX12_keepsAct_n52 μ) := by
  unfold fX12_keepsAct_n52
  exact (zF_bm (oX12_putsTo  h) (fun μ1 hμ1 => (zF_lm (PQ_up hμ1 ⟨by decide, Or.inr (by decide)⟩) (fun μ2 hμ2 => (zF_some hμ2)))))
theorem oX12_keepsAct_l13 {m : gM} : ∀ (n : Nat) (y1 : Int32) (μ : gM), PQ m μ → zF id (PQ m) (fX12_keepsAct_l13  n y1 μ) := by
  intro n
  induction n with
  | zero => intro _ μ _; exact zF_none
  | succ n ih =>
    intro y1 μ h
    rw [fX12_keepsAct_l13]
    exact (zF_ite (fun _ => (zF_lm (PQ_up h ⟨by decide, Or.inr (by decide)⟩) (fun μ3 hμ3 => (oX12_keepsAct_n52  hμ3)))) (fun _ => (zF_ck (zF_ck (zF_lm (PQ_up h ⟨by decide, Or.inl (by decide)⟩) (fun μ6 hμ6 => (zF_lv (fun x7 => (ih _ _ hμ6)))))))))
theorem oX12_keepsAct {m : gM} {μ : gM} (h : PQ m μ) : zF id (PQ m) (fX12_keepsAct μ) := by
  unfold fX12_keepsAct
  exact (zF_ite (fun _ => (oX12_keepsAct_l13  _ _ _ h)) (fun _ => (oX12_keepsAct_n52  h)))
theorem oX12_ticks_l47 {m : gM} : ∀ (n : Nat) (y1 y2 : Int32) (μ : gM), PQ m μ → zF Prod.snd (PQ m) (fX12_ticks_l47  n y1 y2 μ) := by
  intro n
  induction n with
  | zero => intro _ _ μ _; exact zF_none
  | succ n ih =>
    intro y1 y2 μ h
    rw [fX12_ticks_l47]
    exact (zF_ite (fun _ => (zF_some h)) (fun _ => (zF_bm (oX12_tickGoes  h) (fun μ4 hμ4 => (zF_lv (fun x5 => (ih _ _ _ hμ4)))))))
theorem oX12_ticks {m : gM} {a1 : Int32} {μ : gM} (h : PQ m μ) : zF Prod.snd (PQ m) (fX12_ticks a1 μ) := by
  unfold fX12_ticks
  exact (zF_lm (PQ_up h ⟨by decide, Or.inr (by decide)⟩) (fun μ1 hμ1 => (zF_ite (fun _ => (zF_some hμ1)) (fun _ => (zF_bv (fun x2 => (zF_ite (fun _ => (zF_some hμ1)) (fun _ => (zF_ite (fun _ => (zF_bm (oX12_keepsAct  hμ1) (fun μ3 hμ3 => (oX12_ticks_l47  _ _ _ _ hμ3)))) (fun _ => (zF_some hμ1)))))))))))
theorem oX12_up {m : gM} {a1 : Int32} {μ : gM} (h : PQ m μ) : zF Prod.snd (PQ m) (fX12_up a1 μ) := by
  unfold fX12_up
  exact (zF_lm (PQ_up h ⟨by decide, Or.inr (by decide)⟩) (fun μ1 hμ1 => (zF_bv (fun x2 => (zF_ite (fun _ => (zF_some hμ1)) (fun _ => (zF_bv (fun x3 => (zF_ite (fun _ => (zF_bm (oX12_keepsAct  hμ1) (fun μ4 hμ4 => (zF_bm (oX12_comesUp  hμ4) (fun μ5 hμ5 => (zF_some hμ5)))))) (fun _ => (zF_some hμ1)))))))))))
theorem oX12_down {m : gM} {a1 a2 : Int32} {μ : gM} (h : PQ m μ) : zF Prod.snd (PQ m) (fX12_down a1 a2 μ) := by
  unfold fX12_down
  exact (zF_lm (PQ_up h ⟨by decide, Or.inr (by decide)⟩) (fun μ1 hμ1 => (zF_bv (fun x2 => (zF_ite (fun _ => (zF_some hμ1)) (fun _ => (zF_bv (fun x3 => (zF_ite (fun _ => (zF_some hμ1)) (fun _ => (zF_bm (oX12_keepsAct  hμ1) (fun μ4 hμ4 => (zF_bp (oX12_goesDown  hμ4) (fun x5 μ6 hμ6 => (zF_some hμ6)))))))))))))))
theorem oX12_cut {m : gM} {a1 a2 : Int32} {μ : gM} (h : PQ m μ) : zF Prod.snd (PQ m) (fX12_cut a1 a2 μ) := by
  unfold fX12_cut
  exact (zF_lm (PQ_up h ⟨by decide, Or.inr (by decide)⟩) (fun μ1 hμ1 => (zF_bv (fun x2 => (zF_ite (fun _ => (zF_some hμ1)) (fun _ => (zF_bv (fun x3 => (zF_ite (fun _ => (zF_some hμ1)) (fun _ => (zF_bm (oX12_keepsAct  hμ1) (fun μ4 hμ4 => (zF_lm (PQ_up hμ4 ⟨by decide, Or.inl (by decide)⟩) (fun μ5 hμ5 => (zF_some hμ5)))))))))))))))
theorem oX12_split {m : gM} {a1 : Int32} {μ : gM} (h : PQ m μ) : zF Prod.snd (PQ m) (fX12_split a1 μ) := by
  unfold fX12_split
  exact (zF_lm (PQ_up h ⟨by decide, Or.inr (by decide)⟩) (fun μ1 hμ1 => (zF_ite (fun _ => (zF_some hμ1)) (fun _ => (zF_bv (fun x2 => (zF_bv (fun x3 => (zF_ite (fun _ => (zF_some hμ1)) (fun _ => (zF_ite (fun _ => (zF_some hμ1)) (fun _ => (zF_bm (oX12_keepsAct  hμ1) (fun μ4 hμ4 => (zF_lm (PQ_up hμ4 ⟨by decide, Or.inl (by decide)⟩) (fun μ5 hμ5 => (zF_some hμ5)))))))))))))))))
theorem oX12_word {m : gM} {a1 a2 a3 : Int32} {μ : gM} (h : PQ m μ) : zF Prod.snd (PQ m) (fX12_word a1 a2 a3 μ) := by
  unfold fX12_word
  exact (zF_lm (PQ_up h ⟨by decide, Or.inr (by decide)⟩) (fun μ1 hμ1 => (zF_bv (fun x2 => (zF_ite (fun _ => (zF_some hμ1)) (fun _ => (zF_bv (fun x3 => (zF_ite (fun _ => (zF_some hμ1)) (fun _ => (zF_bm (oX12_keepsAct  hμ1) (fun μ4 hμ4 => (zF_bv (fun x5 => (zF_ck (zF_lv (fun x7 => (zF_bv (fun x8 => (zF_ck (zF_lm (PQ_up hμ4 ⟨by decide, Or.inl (by decide)⟩) (fun μ10 hμ10 => (zF_some hμ10)))))))))))))))))))))))
theorem oX12_chance {m : gM} {a1 a2 : Int32} {μ : gM} (h : PQ m μ) : zF Prod.snd (PQ m) (fX12_chance a1 a2 μ) := by
  unfold fX12_chance
  exact (zF_lm (PQ_up h ⟨by decide, Or.inr (by decide)⟩) (fun μ1 hμ1 => (zF_ite (fun _ => (zF_some hμ1)) (fun _ => (zF_bv (fun x2 => (zF_ite (fun _ => (zF_some hμ1)) (fun _ => (zF_ite (fun _ => (zF_bm (oX12_keepsAct  hμ1) (fun μ3 hμ3 => (zF_lm (PQ_up hμ3 ⟨by decide, Or.inl (by decide)⟩) (fun μ4 hμ4 => (zF_lm (PQ_up hμ4 ⟨by decide, Or.inl (by decide)⟩) (fun μ5 hμ5 => (zF_some hμ5)))))))) (fun _ => (zF_some hμ1)))))))))))
theorem oX12_undo {m : gM} {μ : gM} (h : PQ m μ) : zF Prod.snd (PQ m) (fX12_undo μ) := by
  unfold fX12_undo
  exact (zF_lm (PQ_up h ⟨by decide, Or.inr (by decide)⟩) (fun μ1 hμ1 => (zF_ite (fun _ => (zF_some hμ1)) (fun _ => (zF_ite (fun _ => (zF_some hμ1)) (fun _ => (zF_lm (PQ_up hμ1 ⟨by decide, Or.inr (by decide)⟩) (fun μ2 hμ2 => (zF_bm (oX12_takesFrom  hμ2) (fun μ3 hμ3 => (zF_some hμ3)))))))))))
theorem oX12_keep {m : gM} {a1 : Int32} {μ : gM} (h : PQ m μ) : zF Prod.snd (PQ m) (fX12_keep a1 μ) := by
  unfold fX12_keep
  exact (zF_lm (PQ_up h ⟨by decide, Or.inr (by decide)⟩) (fun μ1 hμ1 => (zF_bv (fun x2 => (zF_ite (fun _ => (zF_some hμ1)) (fun _ => (zF_ite (fun _ => (zF_some hμ1)) (fun _ => (zF_bm (oX12_putsTo  hμ1) (fun μ3 hμ3 => (zF_ck (zF_lm (PQ_up hμ3 ⟨by decide, Or.inl (by decide)⟩) (fun μ5 hμ5 => (zF_some hμ5))))))))))))))
theorem oX12_back {m : gM} {a1 : Int32} {μ : gM} (h : PQ m μ) : zF Prod.snd (PQ m) (fX12_back a1 μ) := by
  unfold fX12_back
  exact (zF_lm (PQ_up h ⟨by decide, Or.inr (by decide)⟩) (fun μ1 hμ1 => (zF_bv (fun x2 => (zF_ite (fun _ => (zF_some hμ1)) (fun _ => (zF_ite (fun _ => (zF_some hμ1)) (fun _ => (zF_ck (zF_ite (fun _ => (zF_some hμ1)) (fun _ => (zF_bm (oX12_takesFrom  hμ1) (fun μ4 hμ4 => (zF_lm (PQ_up hμ4 ⟨by decide, Or.inr (by decide)⟩) (fun μ5 hμ5 => (zF_some hμ5))))))))))))))))
/-! moves as they were -/
def MS (m μ : gM) : Prop := μ 267 22 = m 267 22
theorem MS_up {m μ : gM} {c i : Nat} {v : Int32} (h : MS m μ) (hc : c ≠ 267 ∨ i ≠ 22) : MS m (gUp μ c i v) := by
  unfold MS
  rcases hc with hc | hc
  · rw [zUp_ne _ (Ne.symm hc)]; exact h
  · by_cases e : c = 267
    · subst e; rw [zUp_slot _ (Ne.symm hc)]; exact h
    · rw [zUp_ne _ (Ne.symm e)]; exact h
theorem uX12_fault {m : gM} {a1 : Int32} {μ : gM} (h : MS m μ) : zF Prod.snd (MS m) (fX12_fault a1 μ) := by
  unfold fX12_fault
  exact (zF_lm (MS_up h (Or.inr (by decide))) (fun μ1 hμ1 => (zF_ite (fun _ => (zF_some hμ1)) (fun _ => (zF_ite (fun _ => (zF_some hμ1)) (fun _ => (zF_some hμ1)))))))
theorem uX12_has {m : gM} {a1 : Int32} {μ : gM} (h : MS m μ) : zF Prod.snd (MS m) (fX12_has a1 μ) := by
  unfold fX12_has
  exact (zF_lm (MS_up h (Or.inr (by decide))) (fun μ1 hμ1 => (zF_ite (fun _ => (zF_some hμ1)) (fun _ => (zF_ite (fun _ => (zF_bv (fun x3 => (zF_some hμ1)))) (fun _ => (zF_ite (fun _ => (zF_some hμ1)) (fun _ => (zF_ite (fun _ => (zF_bv (fun x6 => (zF_some hμ1)))) (fun _ => (zF_ite (fun _ => (zF_bv (fun x8 => (zF_some hμ1)))) (fun _ => (zF_ite (fun _ => (zF_some hμ1)) (fun _ => (zF_ite (fun _ => (zF_some hμ1)) (fun _ => (zF_ite (fun _ => (zF_some hμ1)) (fun _ => (zF_ite (fun _ => (zF_some hμ1)) (fun _ => (zF_ite (fun _ => (zF_some hμ1)) (fun _ => (zF_ite (fun _ => (zF_some hμ1)) (fun _ => (zF_ite (fun _ => (zF_some hμ1)) (fun _ => (zF_ite (fun _ => (zF_some hμ1)) (fun _ => (zF_ite (fun _ => (zF_some hμ1)) (fun _ => (zF_ite (fun _ => (zF_some hμ1)) (fun _ => (zF_ite (fun _ => (zF_some hμ1)) (fun _ => (zF_ite (fun _ => (zF_some hμ1)) (fun _ => (zF_some hμ1)))))))))))))))))))))))))))))))))))))
theorem uX12_group {m : gM} {a1 a2 : Int32} {μ : gM} (h : MS m μ) : zF Prod.snd (MS m) (fX12_group a1 a2 μ) := by
  unfold fX12_group
  exact (zF_lm (MS_up h (Or.inr (by decide))) (fun μ1 hμ1 => (zF_bv (fun x2 => (zF_ite (fun _ => (zF_some hμ1)) (fun _ => (zF_ite (fun _ => (zF_ck (zF_some hμ1))) (fun _ => (zF_ite (fun _ => (zF_ck (zF_some hμ1))) (fun _ => (zF_ite (fun _ => (zF_ck (zF_some hμ1))) (fun _ => (zF_ite (fun _ => (zF_ck (zF_some hμ1))) (fun _ => (zF_ite (fun _ => (zF_ck (zF_some hμ1))) (fun _ => (zF_ite (fun _ => (zF_ck (zF_some hμ1))) (fun _ => (zF_ite (fun _ => (zF_ck (zF_some hμ1))) (fun _ => (zF_ite (fun _ => (zF_ck (zF_some hμ1))) (fun _ => (zF_ite (fun _ => (zF_bv (fun x20 => (zF_some hμ1)))) (fun _ => (zF_some hμ1)))))))))))))))))))))))))
theorem uX12_member {m : gM} {a1 a2 a3 : Int32} {μ : gM} (h : MS m μ) : zF Prod.snd (MS m) (fX12_member a1 a2 a3 μ) := by
  unfold fX12_member
  exact (zF_lm (MS_up h (Or.inr (by decide))) (fun μ1 hμ1 => (zF_bv (fun x2 => (zF_ite (fun _ => (zF_some hμ1)) (fun _ => (zF_bv (fun x3 => (zF_ite (fun _ => (zF_ck (zF_some hμ1))) (fun _ => (zF_ite (fun _ => (zF_bv (fun x7 => (zF_some hμ1)))) (fun _ => (zF_ite (fun _ => (zF_ck (zF_some hμ1))) (fun _ => (zF_ite (fun _ => (zF_ck (zF_some hμ1))) (fun _ => (zF_ite (fun _ => (zF_ck (zF_some hμ1))) (fun _ => (zF_ite (fun _ => (zF_bv (fun x15 => (zF_some hμ1)))) (fun _ => (zF_ite (fun _ => (zF_bv (fun x17 => (zF_some hμ1)))) (fun _ => (zF_ite (fun _ => (zF_ck (zF_some hμ1))) (fun _ => (zF_some hμ1)))))))))))))))))))))))))
theorem uX12_letter_n92 {m : gM} {y3 y4 y5 : Int32} {μ : gM} (h : MS m μ) : zF Prod.snd (MS m) (fX12_letter_n92 y3 y4 y5 μ) := by
  unfold fX12_letter_n92
  exact (zF_ite (fun _ => (zF_some h)) (fun _ => (zF_some h)))
theorem uX12_letter_l69 {m : gM} : ∀ (n : Nat) (y3 y4 y5 : Int32) (μ : gM), MS m μ → zF Prod.snd (MS m) (fX12_letter_l69  n y3 y4 y5 μ) := by
  intro n
  induction n with
  | zero => intro _ _ _ μ _; exact zF_none
  | succ n ih =>
    intro y3 y4 y5 μ h
    rw [fX12_letter_l69]
    exact (zF_ite (fun _ => (uX12_letter_n92  h)) (fun _ => (zF_ite (fun _ => (uX12_letter_n92  h)) (fun _ => (zF_lv (fun x9 => (ih _ _ _ _ h)))))))
theorem uX12_letter {m : gM} {a1 a2 a3 : Int32} {μ : gM} (h : MS m μ) : zF Prod.snd (MS m) (fX12_letter a1 a2 a3 μ) := by
  unfold fX12_letter
  exact (zF_lm (MS_up h (Or.inr (by decide))) (fun μ1 hμ1 => (zF_bv (fun x2 => (zF_ite (fun _ => (zF_some hμ1)) (fun _ => (zF_ck (zF_bv (fun x4 => (zF_ite (fun _ => (zF_some hμ1)) (fun _ => (zF_bv (fun x5 => (zF_ite (fun _ => (zF_some hμ1)) (fun _ => (zF_ck (zF_lv (fun x7 => (uX12_letter_l69  _ _ _ _ _ hμ1)))))))))))))))))))
theorem uX12_track {m : gM} {a1 a2 : Int32} {μ : gM} (h : MS m μ) : zF Prod.snd (MS m) (fX12_track a1 a2 μ) := by
  unfold fX12_track
  exact (zF_lm (MS_up h (Or.inr (by decide))) (fun μ1 hμ1 => (zF_bv (fun x2 => (zF_ite (fun _ => (zF_some hμ1)) (fun _ => (zF_bv (fun x3 => (zF_ite (fun _ => (zF_some hμ1)) (fun _ => (zF_ck (zF_some hμ1))))))))))))
theorem uX12_event {m : gM} {a1 a2 : Int32} {μ : gM} (h : MS m μ) : zF Prod.snd (MS m) (fX12_event a1 a2 μ) := by
  unfold fX12_event
  exact (zF_lm (MS_up h (Or.inr (by decide))) (fun μ1 hμ1 => (zF_bv (fun x2 => (zF_ite (fun _ => (zF_some hμ1)) (fun _ => (zF_bv (fun x3 => (zF_ite (fun _ => (zF_some hμ1)) (fun _ => (zF_ck (zF_some hμ1))))))))))))
theorem uX12_holder {m : gM} {a1 a2 : Int32} {μ : gM} (h : MS m μ) : zF Prod.snd (MS m) (fX12_holder a1 a2 μ) := by
  unfold fX12_holder
  exact (zF_lm (MS_up h (Or.inr (by decide))) (fun μ1 hμ1 => (zF_bv (fun x2 => (zF_ite (fun _ => (zF_some hμ1)) (fun _ => (zF_bv (fun x3 => (zF_ite (fun _ => (zF_some hμ1)) (fun _ => (zF_bv (fun x4 => (zF_some hμ1)))))))))))))
theorem uX12_doubles_l18 {m : gM} : ∀ (n : Nat) (y1 y2 : Int32) (μ : gM), MS m μ → zF Prod.snd (MS m) (fX12_doubles_l18  n y1 y2 μ) := by
  intro n
  induction n with
  | zero => intro _ _ μ _; exact zF_none
  | succ n ih =>
    intro y1 y2 μ h
    rw [fX12_doubles_l18]
    exact (zF_bv (fun x2 => (zF_ite (fun _ => (zF_some h)) (fun _ => (zF_bv (fun x3 => (zF_bv (fun x4 => (zF_lv (fun x5 => (zF_lv (fun x6 => (ih _ _ _ h)))))))))))))
theorem uX12_doubles {m : gM} {μ : gM} (h : MS m μ) : zF Prod.snd (MS m) (fX12_doubles μ) := by
  unfold fX12_doubles
  exact (zF_lm (MS_up h (Or.inr (by decide))) (fun μ1 hμ1 => (zF_ite (fun _ => (zF_some hμ1)) (fun _ => (uX12_doubles_l18  _ _ _ _ hμ1)))))
theorem uX12_orphans_l18 {m : gM} : ∀ (n : Nat) (y1 y2 : Int32) (μ : gM), MS m μ → zF Prod.snd (MS m) (fX12_orphans_l18  n y1 y2 μ) := by
  intro n
  induction n with
  | zero => intro _ _ μ _; exact zF_none
  | succ n ih =>
    intro y1 y2 μ h
    rw [fX12_orphans_l18]
    exact (zF_bv (fun x2 => (zF_ite (fun _ => (zF_some h)) (fun _ => (zF_bv (fun x3 => (zF_bv (fun x4 => (zF_lv (fun x5 => (zF_lv (fun x6 => (ih _ _ _ h)))))))))))))
theorem uX12_orphans {m : gM} {μ : gM} (h : MS m μ) : zF Prod.snd (MS m) (fX12_orphans μ) := by
  unfold fX12_orphans
  exact (zF_lm (MS_up h (Or.inr (by decide))) (fun μ1 hμ1 => (zF_ite (fun _ => (zF_some hμ1)) (fun _ => (uX12_orphans_l18  _ _ _ _ hμ1)))))
theorem uX12_holds_l19 {m : gM} : ∀ (n : Nat) (y1 y2 y3 : Int32) (μ : gM), MS m μ → zF Prod.snd (MS m) (fX12_holds_l19  n y1 y2 y3 μ) := by
  intro n
  induction n with
  | zero => intro _ _ _ μ _; exact zF_none
  | succ n ih =>
    intro y1 y2 y3 μ h
    rw [fX12_holds_l19]
    exact (zF_bv (fun x3 => (zF_ite (fun _ => (zF_some h)) (fun _ => (zF_bv (fun x4 => (zF_bv (fun x5 => (zF_lv (fun x6 => (zF_lv (fun x7 => (ih _ _ _ _ h)))))))))))))
theorem uX12_holds {m : gM} {a1 : Int32} {μ : gM} (h : MS m μ) : zF Prod.snd (MS m) (fX12_holds a1 μ) := by
  unfold fX12_holds
  exact (zF_lm (MS_up h (Or.inr (by decide))) (fun μ1 hμ1 => (zF_bv (fun x2 => (zF_ite (fun _ => (zF_some hμ1)) (fun _ => (uX12_holds_l19  _ _ _ _ _ hμ1)))))))
theorem uX12_laysSlots_l60 {m : gM} {k40 : Int32 → Int32 → Int32 → gM → Option gM} (hk40 : ∀ (u0 u1 u2 : Int32) (ν : gM), MS m ν → zF id (MS m) (k40 u0 u1 u2 ν)) : ∀ (n : Nat) (y1 y3 y4 y5 y6 : Int32) (μ : gM), MS m μ → zF id (MS m) (fX12_laysSlots_l60 k40 n y1 y3 y4 y5 y6 μ) := by
  intro n
  induction n with
  | zero => intro _ _ _ _ _ μ _; exact zF_none
  | succ n ih =>
    intro y1 y3 y4 y5 y6 μ h
    rw [fX12_laysSlots_l60]
    exact (zF_bv (fun x5 => (zF_ite (fun _ => (zF_ck (zF_lm (MS_up h (Or.inl (by decide))) (fun μ7 hμ7 => (zF_ite (fun _ => (zF_lv (fun x8 => (hk40 _ _ _ _ hμ7)))) (fun _ => (zF_ck (zF_ck (zF_lm (MS_up hμ7 (Or.inl (by decide))) (fun μ11 hμ11 => (zF_lv (fun x12 => (hk40 _ _ _ _ hμ11))))))))))))) (fun _ => (zF_bv (fun x14 => (zF_ite (fun _ => (zF_lv (fun x15 => (ih _ _ _ _ _ _ h)))) (fun _ => (zF_bv (fun x16 => (zF_ck (zF_ite (fun _ => (zF_lv (fun x29 => (ih _ _ _ _ _ _ h)))) (fun _ => (zF_ite (fun _ => (zF_lv (fun x18 => (ih _ _ _ _ _ _ h)))) (fun _ => (zF_bv (fun x19 => (zF_ck (zF_ck (zF_bv (fun x22 => (zF_ck (zF_ck (zF_ite (fun _ => (zF_lv (fun x25 => (ih _ _ _ _ _ _ h)))) (fun _ => (zF_lv (fun x26 => (ih _ _ _ _ _ _ h))))))))))))))))))))))))))))
theorem uX12_laysSlots_l40 {m : gM} : ∀ (n : Nat) (y1 y3 y4 : Int32) (μ : gM), MS m μ → zF id (MS m) (fX12_laysSlots_l40  n y1 y3 y4 μ) := by
  intro n
  induction n with
  | zero => intro _ _ _ μ _; exact zF_none
  | succ n ih =>
    intro y1 y3 y4 μ h
    rw [fX12_laysSlots_l40]
    exact (zF_ck (zF_ite (fun _ => (zF_some h)) (fun _ => (uX12_laysSlots_l60 ih _ _ _ _ _ _ _ h))))
theorem uX12_laysSlots_l16 {m : gM} : ∀ (n : Nat) (y1 y3 y4 : Int32) (μ : gM), MS m μ → zF id (MS m) (fX12_laysSlots_l16  n y1 y3 y4 μ) := by
  intro n
  induction n with
  | zero => intro _ _ _ μ _; exact zF_none
  | succ n ih =>
    intro y1 y3 y4 μ h
    rw [fX12_laysSlots_l16]
    exact (zF_ite (fun _ => (uX12_laysSlots_l40  _ _ _ _ _ h)) (fun _ => (zF_ck (zF_lm (MS_up h (Or.inl (by decide))) (fun μ35 hμ35 => (zF_lv (fun x36 => (ih _ _ _ _ hμ35))))))))
theorem uX12_laysSlots {m : gM} {a1 a2 : Int32} {μ : gM} (h : MS m μ) : zF id (MS m) (fX12_laysSlots a1 a2 μ) := by
  unfold fX12_laysSlots
  exact (zF_bv (fun x1 => (zF_bv (fun x2 => (zF_lv (fun x3 => (uX12_laysSlots_l16  _ _ _ _ _ h)))))))
theorem uX12_slot {m : gM} {a1 a2 a3 : Int32} {μ : gM} (h : MS m μ) : zF Prod.snd (MS m) (fX12_slot a1 a2 a3 μ) := by
  unfold fX12_slot
  exact (zF_lm (MS_up h (Or.inr (by decide))) (fun μ1 hμ1 => (zF_bv (fun x2 => (zF_ite (fun _ => (zF_some hμ1)) (fun _ => (zF_bv (fun x3 => (zF_ite (fun _ => (zF_some hμ1)) (fun _ => (zF_ck (zF_bv (fun x5 => (zF_ite (fun _ => (zF_some hμ1)) (fun _ => (zF_bm (uX12_laysSlots  hμ1) (fun μ6 hμ6 => (zF_ck (zF_some hμ6)))))))))))))))))))
theorem uX12_slots {m : gM} {a1 a2 : Int32} {μ : gM} (h : MS m μ) : zF Prod.snd (MS m) (fX12_slots a1 a2 μ) := by
  unfold fX12_slots
  exact (zF_lm (MS_up h (Or.inr (by decide))) (fun μ1 hμ1 => (zF_bv (fun x2 => (zF_ite (fun _ => (zF_some hμ1)) (fun _ => (zF_bv (fun x3 => (zF_ite (fun _ => (zF_some hμ1)) (fun _ => (zF_bm (uX12_laysSlots  hμ1) (fun μ4 hμ4 => (zF_ck (zF_some hμ4))))))))))))))
theorem uX12_host {m : gM} {a1 a2 a3 : Int32} {μ : gM} (h : MS m μ) : zF Prod.snd (MS m) (fX12_host a1 a2 a3 μ) := by
  unfold fX12_host
  exact (zF_lm (MS_up h (Or.inr (by decide))) (fun μ1 hμ1 => (zF_bv (fun x2 => (zF_ite (fun _ => (zF_some hμ1)) (fun _ => (zF_bv (fun x3 => (zF_ite (fun _ => (zF_some hμ1)) (fun _ => (zF_ite (fun _ => (zF_bm (uX12_laysSlots  hμ1) (fun μ4 hμ4 => (zF_ck (zF_ck (zF_ck (zF_some hμ4))))))) (fun _ => (zF_some hμ1)))))))))))))
theorem uX12_load_n96 {m : gM} {k58 : Int32 → Int32 → Int32 → Int32 → Int32 → gM → Option (Int32 × gM)} (hk58 : ∀ (u0 u1 u2 u3 u4 : Int32) (ν : gM), MS m ν → zF Prod.snd (MS m) (k58 u0 u1 u2 u3 u4 ν)) {y2 y3 y4 y6 z0 z1 z2 : Int32} {μ : gM} (h : MS m μ) : zF Prod.snd (MS m) (fX12_load_n96 k58 y2 y3 y4 y6 z0 z1 z2 μ) := by
  unfold fX12_load_n96
  exact (zF_bv (fun x12 => (zF_lv (fun x13 => (zF_lv (fun x14 => (hk58 _ _ _ _ _ _ h)))))))
theorem uX12_load_l58 {m : gM} : ∀ (n : Nat) (y2 y3 y4 y5 y6 : Int32) (μ : gM), MS m μ → zF Prod.snd (MS m) (fX12_load_l58  n y2 y3 y4 y5 y6 μ) := by
  intro n
  induction n with
  | zero => intro _ _ _ _ _ μ _; exact zF_none
  | succ n ih =>
    intro y2 y3 y4 y5 y6 μ h
    rw [fX12_load_l58]
    exact (zF_ite (fun _ => (zF_some h)) (fun _ => (zF_ck (zF_ite (fun _ => (zF_ck (zF_ck (zF_ite (fun _ => (uX12_load_n96 ih h)) (fun _ => (uX12_load_n96 ih h)))))) (fun _ => (zF_lv (fun x9 => (ih _ _ _ _ _ _ h))))))))
theorem uX12_load {m : gM} {a1 a2 a3 : Int32} {μ : gM} (h : MS m μ) : zF Prod.snd (MS m) (fX12_load a1 a2 a3 μ) := by
  unfold fX12_load
  exact (zF_lm (MS_up h (Or.inr (by decide))) (fun μ1 hμ1 => (zF_bv (fun x2 => (zF_ite (fun _ => (zF_some hμ1)) (fun _ => (zF_bv (fun x3 => (zF_ite (fun _ => (zF_some hμ1)) (fun _ => (zF_bv (fun x4 => (zF_ite (fun _ => (zF_some hμ1)) (fun _ => (zF_bm (uX12_laysSlots  hμ1) (fun μ5 hμ5 => (zF_ck (zF_lv (fun x7 => (uX12_load_l58  _ _ _ _ _ _ _ hμ5))))))))))))))))))))
theorem uX12_rank_l40 {m : gM} : ∀ (n : Nat) (y1 y2 y3 y4 y5 : Int32) (μ : gM), MS m μ → zF Prod.snd (MS m) (fX12_rank_l40  n y1 y2 y3 y4 y5 μ) := by
  intro n
  induction n with
  | zero => intro _ _ _ _ _ μ _; exact zF_none
  | succ n ih =>
    intro y1 y2 y3 y4 y5 μ h
    rw [fX12_rank_l40]
    exact (zF_ite (fun _ => (zF_some h)) (fun _ => (zF_ite (fun _ => (zF_some h)) (fun _ => (zF_lv (fun x6 => (zF_bv (fun x7 => (zF_lv (fun x8 => (ih _ _ _ _ _ _ h)))))))))))
theorem uX12_rank {m : gM} {a1 a2 : Int32} {μ : gM} (h : MS m μ) : zF Prod.snd (MS m) (fX12_rank a1 a2 μ) := by
  unfold fX12_rank
  exact (zF_lm (MS_up h (Or.inr (by decide))) (fun μ1 hμ1 => (zF_bv (fun x2 => (zF_ite (fun _ => (zF_some hμ1)) (fun _ => (zF_ite (fun _ => (zF_ck (zF_lv (fun x4 => (zF_bv (fun x5 => (uX12_rank_l40  _ _ _ _ _ _ _ hμ1))))))) (fun _ => (zF_some hμ1)))))))))
theorem uX12_log {m : gM} {a1 a2 : Int32} {μ : gM} (h : MS m μ) : zF Prod.snd (MS m) (fX12_log a1 a2 μ) := by
  unfold fX12_log
  exact (zF_lm (MS_up h (Or.inr (by decide))) (fun μ1 hμ1 => (zF_bv (fun x2 => (zF_ite (fun _ => (zF_some hμ1)) (fun _ => (zF_bv (fun x3 => (zF_ite (fun _ => (zF_some hμ1)) (fun _ => (zF_ck (zF_some hμ1))))))))))))
theorem uX12_puts_l3 {m : gM} : ∀ (n : Nat) (y1 y2 : Int32) (μ : gM), MS m μ → zF id (MS m) (fX12_puts_l3  n y1 y2 μ) := by
  intro n
  induction n with
  | zero => intro _ _ μ _; exact zF_none
  | succ n ih =>
    intro y1 y2 μ h
    rw [fX12_puts_l3]
    exact (zF_ite (fun _ => (zF_some h)) (fun _ => (zF_ck (zF_lm (MS_up h (Or.inl (by decide))) (fun μ2 hμ2 => (zF_lm (MS_up hμ2 (Or.inr (by decide))) (fun μ3 hμ3 => (zF_lv (fun x4 => (ih _ _ _ hμ3))))))))))
theorem uX12_puts {m : gM} {a1 : Int32} {μ : gM} (h : MS m μ) : zF id (MS m) (fX12_puts a1 μ) := by
  unfold fX12_puts
  exact (uX12_puts_l3  _ _ _ _ h)
theorem uX12_feed {m : gM} {a1 a2 a3 a4 a5 : Int32} {μ : gM} (h : MS m μ) : zF Prod.snd (MS m) (fX12_feed a1 a2 a3 a4 a5 μ) := by
  unfold fX12_feed
  exact (zF_lm (MS_up h (Or.inr (by decide))) (fun μ1 hμ1 => (zF_ite (fun _ => (zF_bm (uX12_puts  hμ1) (fun μ2 hμ2 => (zF_bm (uX12_puts  hμ2) (fun μ3 hμ3 => (zF_bm (uX12_puts  hμ3) (fun μ4 hμ4 => (zF_bm (uX12_puts  hμ4) (fun μ5 hμ5 => (zF_bm (uX12_puts  hμ5) (fun μ6 hμ6 => (zF_some hμ6)))))))))))) (fun _ => (zF_some hμ1)))))
theorem uX12_end {m : gM} {a1 : Int32} {μ : gM} (h : MS m μ) : zF Prod.snd (MS m) (fX12_end a1 μ) := by
  unfold fX12_end
  exact (zF_lm (MS_up h (Or.inr (by decide))) (fun μ1 hμ1 => (zF_bv (fun x2 => (zF_ite (fun _ => (zF_some hμ1)) (fun _ => (zF_lm (MS_up hμ1 (Or.inr (by decide))) (fun μ3 hμ3 => (zF_some hμ3)))))))))
theorem uX12_putsTo_l2 {m : gM} : ∀ (n : Nat) (y1 y2 : Int32) (μ : gM), MS m μ → zF id (MS m) (fX12_putsTo_l2  n y1 y2 μ) := by
  intro n
  induction n with
  | zero => intro _ _ μ _; exact zF_none
  | succ n ih =>
    intro y1 y2 μ h
    rw [fX12_putsTo_l2]
    exact (zF_ite (fun _ => (zF_some h)) (fun _ => (zF_ck (zF_ck (zF_lm (MS_up h (Or.inl (by decide))) (fun μ3 hμ3 => (zF_lv (fun x4 => (ih _ _ _ hμ3)))))))))
theorem uX12_putsTo {m : gM} {a1 : Int32} {μ : gM} (h : MS m μ) : zF id (MS m) (fX12_putsTo a1 μ) := by
  unfold fX12_putsTo
  exact (uX12_putsTo_l2  _ _ _ _ h)
theorem uX12_keepsAct_n52 {m : gM} {μ : gM} (h : MS m μ) : zF id (MS m) (fX12_keepsAct_n52 μ) := by
  unfold fX12_keepsAct_n52
  exact (zF_bm (uX12_putsTo  h) (fun μ1 hμ1 => (zF_lm (MS_up hμ1 (Or.inr (by decide))) (fun μ2 hμ2 => (zF_some hμ2)))))
theorem uX12_keepsAct_l13 {m : gM} : ∀ (n : Nat) (y1 : Int32) (μ : gM), MS m μ → zF id (MS m) (fX12_keepsAct_l13  n y1 μ) := by
  intro n
  induction n with
  | zero => intro _ μ _; exact zF_none
  | succ n ih =>
    intro y1 μ h
    rw [fX12_keepsAct_l13]
    exact (zF_ite (fun _ => (zF_lm (MS_up h (Or.inr (by decide))) (fun μ3 hμ3 => (uX12_keepsAct_n52  hμ3)))) (fun _ => (zF_ck (zF_ck (zF_lm (MS_up h (Or.inl (by decide))) (fun μ6 hμ6 => (zF_lv (fun x7 => (ih _ _ hμ6)))))))))
theorem uX12_keepsAct {m : gM} {μ : gM} (h : MS m μ) : zF id (MS m) (fX12_keepsAct μ) := by
  unfold fX12_keepsAct
  exact (zF_ite (fun _ => (uX12_keepsAct_l13  _ _ _ h)) (fun _ => (uX12_keepsAct_n52  h)))
theorem uX12_logs_l24 {m : gM} : ∀ (n : Nat) (y1 y2 y3 y4 y5 : Int32) (μ : gM), MS m μ → zF id (MS m) (fX12_logs_l24  n y1 y2 y3 y4 y5 μ) := by
  intro n
  induction n with
  | zero => intro _ _ _ _ _ μ _; exact zF_none
  | succ n ih =>
    intro y1 y2 y3 y4 y5 μ h
    rw [fX12_logs_l24]
    exact (zF_ite (fun _ => (zF_lm (MS_up h (Or.inl (by decide))) (fun μ3 hμ3 => (zF_lm (MS_up hμ3 (Or.inl (by decide))) (fun μ4 hμ4 => (zF_lm (MS_up hμ4 (Or.inl (by decide))) (fun μ5 hμ5 => (zF_lm (MS_up hμ5 (Or.inl (by decide))) (fun μ6 hμ6 => (zF_lm (MS_up hμ6 (Or.inl (by decide))) (fun μ7 hμ7 => (zF_some hμ7)))))))))))) (fun _ => (zF_ck (zF_ck (zF_lm (MS_up h (Or.inl (by decide))) (fun μ10 hμ10 => (zF_lv (fun x11 => (ih _ _ _ _ _ _ hμ10)))))))))
theorem uX12_logs {m : gM} {a1 a2 a3 : Int32} {μ : gM} (h : MS m μ) : zF id (MS m) (fX12_logs a1 a2 a3 μ) := by
  unfold fX12_logs
  exact (zF_bv (fun x1 => (zF_lv (fun x2 => (uX12_logs_l24  _ _ _ _ _ _ _ h)))))
theorem uX12_farewell_l12 {m : gM} : ∀ (n : Nat) (y1 y2 y3 : Int32) (μ : gM), MS m μ → zF id (MS m) (fX12_farewell_l12  n y1 y2 y3 μ) := by
  intro n
  induction n with
  | zero => intro _ _ _ μ _; exact zF_none
  | succ n ih =>
    intro y1 y2 y3 μ h
    rw [fX12_farewell_l12]
    exact (zF_bv (fun x2 => (zF_ite (fun _ => (zF_some h)) (fun _ => (zF_bv (fun x3 => (zF_ck (zF_ite (fun _ => (zF_bv (fun x6 => (zF_ite (fun _ => (zF_lv (fun x7 => (ih _ _ _ _ h)))) (fun _ => (zF_ck (zF_bv (fun x9 => (zF_bv (fun x10 => (zF_bv (fun x11 => (zF_ck (zF_lm (MS_up h (Or.inl (by decide))) (fun μ13 hμ13 => (zF_lv (fun x14 => (ih _ _ _ _ hμ13)))))))))))))))))) (fun _ => (zF_lv (fun x5 => (ih _ _ _ _ h))))))))))))
theorem uX12_farewell {m : gM} {a1 a2 : Int32} {μ : gM} (h : MS m μ) : zF id (MS m) (fX12_farewell a1 a2 μ) := by
  unfold fX12_farewell
  exact (zF_lm (MS_up h (Or.inl (by decide))) (fun μ1 hμ1 => (uX12_farewell_l12  _ _ _ _ _ hμ1)))
theorem uX12_goesDown_l19 {m : gM} : ∀ (n : Nat) (y1 y2 y3 y4 : Int32) (μ : gM), MS m μ → zF Prod.snd (MS m) (fX12_goesDown_l19  n y1 y2 y3 y4 μ) := by
  intro n
  induction n with
  | zero => intro _ _ _ _ μ _; exact zF_none
  | succ n ih =>
    intro y1 y2 y3 y4 μ h
    rw [fX12_goesDown_l19]
    exact (zF_bv (fun x2 => (zF_ite (fun _ => (zF_some h)) (fun _ => (zF_bv (fun x3 => (zF_bv (fun x4 => (zF_ck (zF_lm (MS_up h (Or.inl (by decide))) (fun μ6 hμ6 => (zF_ck (zF_lm (MS_up hμ6 (Or.inl (by decide))) (fun μ8 hμ8 => (zF_ck (zF_lm (MS_up hμ8 (Or.inl (by decide))) (fun μ10 hμ10 => (zF_ite (fun _ => (zF_lv (fun x17 => (ih _ _ _ _ _ hμ10)))) (fun _ => (zF_lv (fun x11 => (zF_bm (uX12_logs  hμ10) (fun μ12 hμ12 => (zF_ite (fun _ => (zF_lv (fun x13 => (ih _ _ _ _ _ hμ12)))) (fun _ => (zF_bm (uX12_farewell  hμ12) (fun μ14 hμ14 => (zF_lv (fun x15 => (ih _ _ _ _ _ hμ14))))))))))))))))))))))))))))))
theorem uX12_goesDown {m : gM} {a1 a2 : Int32} {μ : gM} (h : MS m μ) : zF Prod.snd (MS m) (fX12_goesDown a1 a2 μ) := by
  unfold fX12_goesDown
  exact (zF_lm (MS_up h (Or.inl (by decide))) (fun μ1 hμ1 => (uX12_goesDown_l19  _ _ _ _ _ _ hμ1)))
theorem uX12_down {m : gM} {a1 a2 : Int32} {μ : gM} (h : MS m μ) : zF Prod.snd (MS m) (fX12_down a1 a2 μ) := by
  unfold fX12_down
  exact (zF_lm (MS_up h (Or.inr (by decide))) (fun μ1 hμ1 => (zF_bv (fun x2 => (zF_ite (fun _ => (zF_some hμ1)) (fun _ => (zF_bv (fun x3 => (zF_ite (fun _ => (zF_some hμ1)) (fun _ => (zF_bm (uX12_keepsAct  hμ1) (fun μ4 hμ4 => (zF_bp (uX12_goesDown  hμ4) (fun x5 μ6 hμ6 => (zF_some hμ6)))))))))))))))
theorem uX12_cut {m : gM} {a1 a2 : Int32} {μ : gM} (h : MS m μ) : zF Prod.snd (MS m) (fX12_cut a1 a2 μ) := by
  unfold fX12_cut
  exact (zF_lm (MS_up h (Or.inr (by decide))) (fun μ1 hμ1 => (zF_bv (fun x2 => (zF_ite (fun _ => (zF_some hμ1)) (fun _ => (zF_bv (fun x3 => (zF_ite (fun _ => (zF_some hμ1)) (fun _ => (zF_bm (uX12_keepsAct  hμ1) (fun μ4 hμ4 => (zF_lm (MS_up hμ4 (Or.inl (by decide))) (fun μ5 hμ5 => (zF_some hμ5)))))))))))))))
theorem uX12_split {m : gM} {a1 : Int32} {μ : gM} (h : MS m μ) : zF Prod.snd (MS m) (fX12_split a1 μ) := by
  unfold fX12_split
  exact (zF_lm (MS_up h (Or.inr (by decide))) (fun μ1 hμ1 => (zF_ite (fun _ => (zF_some hμ1)) (fun _ => (zF_bv (fun x2 => (zF_bv (fun x3 => (zF_ite (fun _ => (zF_some hμ1)) (fun _ => (zF_ite (fun _ => (zF_some hμ1)) (fun _ => (zF_bm (uX12_keepsAct  hμ1) (fun μ4 hμ4 => (zF_lm (MS_up hμ4 (Or.inl (by decide))) (fun μ5 hμ5 => (zF_some hμ5)))))))))))))))))
theorem uX12_word {m : gM} {a1 a2 a3 : Int32} {μ : gM} (h : MS m μ) : zF Prod.snd (MS m) (fX12_word a1 a2 a3 μ) := by
  unfold fX12_word
  exact (zF_lm (MS_up h (Or.inr (by decide))) (fun μ1 hμ1 => (zF_bv (fun x2 => (zF_ite (fun _ => (zF_some hμ1)) (fun _ => (zF_bv (fun x3 => (zF_ite (fun _ => (zF_some hμ1)) (fun _ => (zF_bm (uX12_keepsAct  hμ1) (fun μ4 hμ4 => (zF_bv (fun x5 => (zF_ck (zF_lv (fun x7 => (zF_bv (fun x8 => (zF_ck (zF_lm (MS_up hμ4 (Or.inl (by decide))) (fun μ10 hμ10 => (zF_some hμ10)))))))))))))))))))))))
theorem uX12_chance {m : gM} {a1 a2 : Int32} {μ : gM} (h : MS m μ) : zF Prod.snd (MS m) (fX12_chance a1 a2 μ) := by
  unfold fX12_chance
  exact (zF_lm (MS_up h (Or.inr (by decide))) (fun μ1 hμ1 => (zF_ite (fun _ => (zF_some hμ1)) (fun _ => (zF_bv (fun x2 => (zF_ite (fun _ => (zF_some hμ1)) (fun _ => (zF_ite (fun _ => (zF_bm (uX12_keepsAct  hμ1) (fun μ3 hμ3 => (zF_lm (MS_up hμ3 (Or.inl (by decide))) (fun μ4 hμ4 => (zF_lm (MS_up hμ4 (Or.inl (by decide))) (fun μ5 hμ5 => (zF_some hμ5)))))))) (fun _ => (zF_some hμ1)))))))))))
theorem uX12_takesFrom_l2 {m : gM} : ∀ (n : Nat) (y1 y2 : Int32) (μ : gM), MS m μ → zF id (MS m) (fX12_takesFrom_l2  n y1 y2 μ) := by
  intro n
  induction n with
  | zero => intro _ _ μ _; exact zF_none
  | succ n ih =>
    intro y1 y2 μ h
    rw [fX12_takesFrom_l2]
    exact (zF_ite (fun _ => (zF_some h)) (fun _ => (zF_ck (zF_ck (zF_lm (MS_up h (Or.inl (by decide))) (fun μ3 hμ3 => (zF_lv (fun x4 => (ih _ _ _ hμ3)))))))))
theorem uX12_takesFrom {m : gM} {a1 : Int32} {μ : gM} (h : MS m μ) : zF id (MS m) (fX12_takesFrom a1 μ) := by
  unfold fX12_takesFrom
  exact (uX12_takesFrom_l2  _ _ _ _ h)
theorem uX12_undo {m : gM} {μ : gM} (h : MS m μ) : zF Prod.snd (MS m) (fX12_undo μ) := by
  unfold fX12_undo
  exact (zF_lm (MS_up h (Or.inr (by decide))) (fun μ1 hμ1 => (zF_ite (fun _ => (zF_some hμ1)) (fun _ => (zF_ite (fun _ => (zF_some hμ1)) (fun _ => (zF_lm (MS_up hμ1 (Or.inr (by decide))) (fun μ2 hμ2 => (zF_bm (uX12_takesFrom  hμ2) (fun μ3 hμ3 => (zF_some hμ3)))))))))))
theorem uX12_keep {m : gM} {a1 : Int32} {μ : gM} (h : MS m μ) : zF Prod.snd (MS m) (fX12_keep a1 μ) := by
  unfold fX12_keep
  exact (zF_lm (MS_up h (Or.inr (by decide))) (fun μ1 hμ1 => (zF_bv (fun x2 => (zF_ite (fun _ => (zF_some hμ1)) (fun _ => (zF_ite (fun _ => (zF_some hμ1)) (fun _ => (zF_bm (uX12_putsTo  hμ1) (fun μ3 hμ3 => (zF_ck (zF_lm (MS_up hμ3 (Or.inl (by decide))) (fun μ5 hμ5 => (zF_some hμ5))))))))))))))
theorem uX12_back {m : gM} {a1 : Int32} {μ : gM} (h : MS m μ) : zF Prod.snd (MS m) (fX12_back a1 μ) := by
  unfold fX12_back
  exact (zF_lm (MS_up h (Or.inr (by decide))) (fun μ1 hμ1 => (zF_bv (fun x2 => (zF_ite (fun _ => (zF_some hμ1)) (fun _ => (zF_ite (fun _ => (zF_some hμ1)) (fun _ => (zF_ck (zF_ite (fun _ => (zF_some hμ1)) (fun _ => (zF_bm (uX12_takesFrom  hμ1) (fun μ4 hμ4 => (zF_lm (MS_up hμ4 (Or.inr (by decide))) (fun μ5 hμ5 => (zF_some hμ5))))))))))))))))
theorem uX12_next_n39 {m : gM} {k0 : gM → Option (Int32 × gM)} (hk0 : ∀ (ν : gM), MS m ν → zF Prod.snd (MS m) (k0  ν)) {μ : gM} (h : MS m μ) : zF Prod.snd (MS m) (fX12_next_n39 k0 μ) := by
  unfold fX12_next_n39
  exact (zF_lm (MS_up h (Or.inr (by decide))) (fun μ2 hμ2 => (hk0  _ hμ2)))
theorem uX12_next_l0 {m : gM} : ∀ (n : Nat) (μ : gM), MS m μ → zF Prod.snd (MS m) (fX12_next_l0  n  μ) := by
  intro n
  induction n with
  | zero => intro  μ _; exact zF_none
  | succ n ih =>
    intro  μ h
    rw [fX12_next_l0]
    exact (zF_ite (fun _ => (zF_some h)) (fun _ => (zF_ck (zF_ite (fun _ => (uX12_next_n39 ih h)) (fun _ => (zF_ck (zF_ite (fun _ => (uX12_next_n39 ih h)) (fun _ => (zF_some h)))))))))
theorem uX12_next {m : gM} {μ : gM} (h : MS m μ) : zF Prod.snd (MS m) (fX12_next μ) := by
  unfold fX12_next
  exact (uX12_next_l0  _  _ h)
theorem uX12_seesWord_n82 {m : gM} {k33 : Int32 → gM → Option (Int32 × gM)} (hk33 : ∀ (u0 : Int32) (ν : gM), MS m ν → zF Prod.snd (MS m) (k33 u0 ν)) {y1 z0 : Int32} {μ : gM} (h : MS m μ) : zF Prod.snd (MS m) (fX12_seesWord_n82 k33 y1 z0 μ) := by
  unfold fX12_seesWord_n82
  exact (zF_lm (MS_up h (Or.inr (by decide))) (fun μ8 hμ8 => (zF_lm (MS_up hμ8 (Or.inr (by decide))) (fun μ9 hμ9 => (hk33 _ _ hμ9)))))
theorem uX12_seesWord_l33 {m : gM} : ∀ (n : Nat) (y1 : Int32) (μ : gM), MS m μ → zF Prod.snd (MS m) (fX12_seesWord_l33  n y1 μ) := by
  intro n
  induction n with
  | zero => intro _ μ _; exact zF_none
  | succ n ih =>
    intro y1 μ h
    rw [fX12_seesWord_l33]
    exact (zF_bv (fun x6 => (zF_ite (fun _ => (zF_ite (fun _ => (zF_some h)) (fun _ => (zF_some h)))) (fun _ => (zF_ite (fun _ => (uX12_seesWord_n82 ih h)) (fun _ => (zF_ck (uX12_seesWord_n82 ih h))))))))
theorem uX12_seesWord {m : gM} {μ : gM} (h : MS m μ) : zF Prod.snd (MS m) (fX12_seesWord μ) := by
  unfold fX12_seesWord
  exact (zF_bp (uX12_next  h) (fun x1 μ2 hμ2 => (zF_lm (MS_up hμ2 (Or.inr (by decide))) (fun μ3 hμ3 => (zF_lm (MS_up hμ3 (Or.inr (by decide))) (fun μ4 hμ4 => (zF_bv (fun x5 => (zF_ite (fun _ => (zF_some hμ4)) (fun _ => (zF_ite (fun _ => (zF_some hμ4)) (fun _ => (uX12_seesWord_l33  _ _ _ hμ4)))))))))))))
theorem uX12_isWord {m : gM} {a1 : Int32} {μ : gM} (h : MS m μ) : zF Prod.snd (MS m) (fX12_isWord a1 μ) := by
  unfold fX12_isWord
  exact (zF_bv (fun x1 => (zF_ite (fun _ => (zF_some h)) (fun _ => (zF_bp (uX12_seesWord  h) (fun x2 μ3 hμ3 => (zF_ite (fun _ => (zF_some hμ3)) (fun _ => (zF_ite (fun _ => (zF_some hμ3)) (fun _ => (zF_some hμ3)))))))))))
theorem uX12_fail {m : gM} {a1 a2 : Int32} {μ : gM} (h : MS m μ) : zF id (MS m) (fX12_fail a1 a2 μ) := by
  unfold fX12_fail
  exact (zF_ite (fun _ => (zF_lm (MS_up h (Or.inr (by decide))) (fun μ1 hμ1 => (zF_lm (MS_up hμ1 (Or.inr (by decide))) (fun μ2 hμ2 => (zF_some hμ2)))))) (fun _ => (zF_some h)))
theorem uX12_unlike {m : gM} {μ : gM} (h : MS m μ) : zF id (MS m) (fX12_unlike μ) := by
  unfold fX12_unlike
  exact (zF_bp (uX12_next  h) (fun x1 μ2 hμ2 => (zF_bm (uX12_fail  hμ2) (fun μ3 hμ3 => (zF_some hμ3)))))
theorem uX12_pass {m : gM} {μ : gM} (h : MS m μ) : zF id (MS m) (fX12_pass μ) := by
  unfold fX12_pass
  exact (zF_lm (MS_up h (Or.inr (by decide))) (fun μ1 hμ1 => (zF_lm (MS_up hμ1 (Or.inr (by decide))) (fun μ2 hμ2 => (zF_some hμ2)))))
theorem uX12_number_l75 {m : gM} : ∀ (n : Nat) (y1 y2 y3 y4 y5 y6 : Int32) (μ : gM), MS m μ → zF Prod.snd (MS m) (fX12_number_l75  n y1 y2 y3 y4 y5 y6 μ) := by
  intro n
  induction n with
  | zero => intro _ _ _ _ _ _ μ _; exact zF_none
  | succ n ih =>
    intro y1 y2 y3 y4 y5 y6 μ h
    rw [fX12_number_l75]
    exact (zF_ite (fun _ => (zF_lm (MS_up h (Or.inr (by decide))) (fun μ7 hμ7 => (zF_lm (MS_up hμ7 (Or.inr (by decide))) (fun μ8 hμ8 => (zF_bv (fun x9 => (zF_ite (fun _ => (zF_bm (uX12_fail  hμ8) (fun μ10 hμ10 => (zF_some hμ10)))) (fun _ => (zF_some hμ8)))))))))) (fun _ => (zF_ck (zF_lv (fun x13 => (zF_lv (fun x14 => (ih _ _ _ _ _ _ _ h))))))))
theorem uX12_number_n60 {m : gM} {y1 y2 y3 y4 : Int32} {μ : gM} (h : MS m μ) : zF Prod.snd (MS m) (fX12_number_n60 y1 y2 y3 y4 μ) := by
  unfold fX12_number_n60
  exact (zF_bv (fun x6 => (zF_ite (fun _ => (zF_some h)) (fun _ => (uX12_number_l75  _ _ _ _ _ _ _ _ h)))))
theorem uX12_number_n56 {m : gM} {y1 y2 y3 y4 : Int32} {μ : gM} (h : MS m μ) : zF Prod.snd (MS m) (fX12_number_n56 y1 y2 y3 y4 μ) := by
  unfold fX12_number_n56
  exact (zF_bm (uX12_unlike  h) (fun μ17 hμ17 => (uX12_number_n60  hμ17)))
theorem uX12_number_l13 {m : gM} : ∀ (n : Nat) (y1 y2 y3 y4 : Int32) (μ : gM), MS m μ → zF Prod.snd (MS m) (fX12_number_l13  n y1 y2 y3 y4 μ) := by
  intro n
  induction n with
  | zero => intro _ _ _ _ μ _; exact zF_none
  | succ n ih =>
    intro y1 y2 y3 y4 μ h
    rw [fX12_number_l13]
    exact (zF_bv (fun x4 => (zF_ite (fun _ => (zF_bv (fun x5 => (zF_ite (fun _ => (uX12_number_n60  h)) (fun _ => (zF_ite (fun _ => (uX12_number_n56  h)) (fun _ => (zF_ite (fun _ => (uX12_number_n56  h)) (fun _ => (zF_ite (fun _ => (uX12_number_n56  h)) (fun _ => (uX12_number_n60  h)))))))))))) (fun _ => (zF_lv (fun x22 => (ih _ _ _ _ _ h)))))))
theorem uX12_number {m : gM} {a1 a2 : Int32} {μ : gM} (h : MS m μ) : zF Prod.snd (MS m) (fX12_number a1 a2 μ) := by
  unfold fX12_number
  exact (zF_bp (uX12_next  h) (fun x1 μ2 hμ2 => (zF_lm (MS_up hμ2 (Or.inr (by decide))) (fun μ3 hμ3 => (uX12_number_l13  _ _ _ _ _ _ hμ3)))))
theorem uX12_takes {m : gM} {a1 : Int32} {μ : gM} (h : MS m μ) : zF Prod.snd (MS m) (fX12_takes a1 μ) := by
  unfold fX12_takes
  exact (zF_bp (uX12_isWord  h) (fun x1 μ2 hμ2 => (zF_ite (fun _ => (zF_some hμ2)) (fun _ => (zF_bm (uX12_pass  hμ2) (fun μ3 hμ3 => (zF_some hμ3)))))))
theorem uX12_isOver {m : gM} {μ : gM} (h : MS m μ) : zF Prod.snd (MS m) (fX12_isOver μ) := by
  unfold fX12_isOver
  exact (zF_bp (uX12_next  h) (fun x1 μ2 hμ2 => (zF_ite (fun _ => (zF_some hμ2)) (fun _ => (zF_some hμ2)))))
theorem uX12_takesSign {m : gM} {a1 : Int32} {μ : gM} (h : MS m μ) : zF Prod.snd (MS m) (fX12_takesSign a1 μ) := by
  unfold fX12_takesSign
  exact (zF_bv (fun x1 => (zF_ite (fun _ => (zF_some h)) (fun _ => (zF_bp (uX12_isOver  h) (fun x2 μ3 hμ3 => (zF_ite (fun _ => (zF_ck (zF_ite (fun _ => (zF_lm (MS_up hμ3 (Or.inr (by decide))) (fun μ5 hμ5 => (zF_some hμ5)))) (fun _ => (zF_some hμ3))))) (fun _ => (zF_some hμ3)))))))))
theorem uX12_needsSign {m : gM} {a1 : Int32} {μ : gM} (h : MS m μ) : zF id (MS m) (fX12_needsSign a1 μ) := by
  unfold fX12_needsSign
  exact (zF_bv (fun x1 => (zF_ite (fun _ => (zF_some h)) (fun _ => (zF_bp (uX12_takesSign  h) (fun x2 μ3 hμ3 => (zF_ite (fun _ => (zF_bm (uX12_unlike  hμ3) (fun μ4 hμ4 => (zF_some hμ4)))) (fun _ => (zF_some hμ3)))))))))
theorem uX12_eventRead_n284 {m : gM} {μ : gM} (h : MS m μ) : zF id (MS m) (fX12_eventRead_n284 μ) := by
  unfold fX12_eventRead_n284
  exact (zF_bm (uX12_needsSign  h) (fun μ24 hμ24 => (zF_some hμ24)))
theorem uX12_oneRead_n26 {m : gM} {p1 : Nat} {y2 : Int32} {μ : gM} (h : MS m μ) : zF Prod.snd (MS m) (fX12_oneRead_n26 p1 y2 μ) := by
  unfold fX12_oneRead_n26
  exact (zF_bv (fun x5 => (zF_ite (fun _ => (zF_some h)) (fun _ => (zF_bv (fun x6 => (zF_ite (fun _ => (zF_bm (uX12_fail  h) (fun μ8 hμ8 => (zF_some hμ8)))) (fun _ => (zF_bm (uX12_pass  h) (fun μ7 hμ7 => (zF_some hμ7)))))))))))
theorem uX12_isName {m : gM} {μ : gM} (h : MS m μ) : zF Prod.snd (MS m) (fX12_isName μ) := by
  unfold fX12_isName
  exact (zF_bv (fun x1 => (zF_ite (fun _ => (zF_some h)) (fun _ => (zF_bp (uX12_seesWord  h) (fun x2 μ3 hμ3 => (zF_ite (fun _ => (zF_some hμ3)) (fun _ => (zF_bv (fun x4 => (zF_ite (fun _ => (zF_some hμ3)) (fun _ => (zF_some hμ3)))))))))))))
theorem uX12_oneRead {m : gM} {p1 : Nat} {a2 : Int32} {μ : gM} (h : MS m μ) : zF Prod.snd (MS m) (fX12_oneRead p1 a2 μ) := by
  unfold fX12_oneRead
  exact (zF_bp (uX12_next  h) (fun x1 μ2 hμ2 => (zF_lm (MS_up hμ2 (Or.inr (by decide))) (fun μ3 hμ3 => (zF_bv (fun x4 => (zF_ite (fun _ => (uX12_oneRead_n26  hμ3)) (fun _ => (zF_bp (uX12_isName  hμ3) (fun x11 μ12 hμ12 => (zF_ite (fun _ => (zF_bm (uX12_unlike  hμ12) (fun μ13 hμ13 => (uX12_oneRead_n26  hμ13)))) (fun _ => (uX12_oneRead_n26  hμ12)))))))))))))
theorem uX12_asks {m : gM} {a1 : Int32} {μ : gM} (h : MS m μ) : zF id (MS m) (fX12_asks a1 μ) := by
  unfold fX12_asks
  exact (zF_bv (fun x1 => (zF_ite (fun _ => (zF_some h)) (fun _ => (zF_bp (uX12_takes  h) (fun x2 μ3 hμ3 => (zF_ite (fun _ => (zF_bm (uX12_unlike  hμ3) (fun μ4 hμ4 => (zF_some hμ4)))) (fun _ => (zF_some hμ3)))))))))
theorem uX12_laysEvent {m : gM} {a1 a2 a3 a4 a5 : Int32} {μ : gM} (h : MS m μ) : zF id (MS m) (fX12_laysEvent a1 a2 a3 a4 a5 μ) := by
  unfold fX12_laysEvent
  exact (zF_bv (fun x1 => (zF_ite (fun _ => (zF_some h)) (fun _ => (zF_ck (zF_lm (MS_up h (Or.inl (by decide))) (fun μ3 hμ3 => (zF_ck (zF_lm (MS_up hμ3 (Or.inl (by decide))) (fun μ5 hμ5 => (zF_ck (zF_lm (MS_up hμ5 (Or.inl (by decide))) (fun μ7 hμ7 => (zF_ck (zF_lm (MS_up hμ7 (Or.inl (by decide))) (fun μ9 hμ9 => (zF_some hμ9)))))))))))))))))
theorem uX12_wordRead_n59 {m : gM} {y1 y2 y3 : Int32} {μ : gM} (h : MS m μ) : zF id (MS m) (fX12_wordRead_n59 y1 y2 y3 μ) := by
  unfold fX12_wordRead_n59
  exact (zF_bp (uX12_number  h) (fun x7 μ8 hμ8 => (zF_bm (uX12_laysEvent  hμ8) (fun μ9 hμ9 => (zF_some hμ9)))))
theorem uX12_wordRead {m : gM} {a1 : Int32} {μ : gM} (h : MS m μ) : zF id (MS m) (fX12_wordRead a1 μ) := by
  unfold fX12_wordRead
  exact (zF_bp (uX12_oneRead  h) (fun x1 μ2 hμ2 => (zF_bm (uX12_asks  hμ2) (fun μ3 hμ3 => (zF_bp (uX12_oneRead  hμ3) (fun x4 μ5 hμ5 => (zF_bv (fun x6 => (zF_ite (fun _ => (uX12_wordRead_n59  hμ5)) (fun _ => (zF_ck (zF_bv (fun x11 => (zF_ite (fun _ => (zF_bm (uX12_fail  hμ5) (fun μ12 hμ12 => (uX12_wordRead_n59  hμ12)))) (fun _ => (uX12_wordRead_n59  hμ5))))))))))))))))
theorem uX12_splitRead_n88 {m : gM} {y1 y2 : Int32} {μ : gM} (h : MS m μ) : zF id (MS m) (fX12_splitRead_n88 y1 y2 μ) := by
  unfold fX12_splitRead_n88
  exact (zF_bm (uX12_laysEvent  h) (fun μ2 hμ2 => (zF_some hμ2)))
theorem uX12_splitRead_n65 {m : gM} {k4 : Int32 → Int32 → Int32 → gM → Option gM} (hk4 : ∀ (u0 u1 u2 : Int32) (ν : gM), MS m ν → zF id (MS m) (k4 u0 u1 u2 ν)) {y1 y2 : Int32} {μ : gM} (h : MS m μ) : zF id (MS m) (fX12_splitRead_n65 k4 y1 y2 μ) := by
  unfold fX12_splitRead_n65
  exact (zF_bv (fun x7 => (zF_ite (fun _ => (hk4 _ _ _ _ h)) (fun _ => (zF_bp (uX12_isName  h) (fun x8 μ9 hμ9 => (zF_ite (fun _ => (hk4 _ _ _ _ hμ9)) (fun _ => (hk4 _ _ _ _ hμ9)))))))))
theorem uX12_splitRead_n51 {m : gM} {k4 : Int32 → Int32 → Int32 → gM → Option gM} (hk4 : ∀ (u0 u1 u2 : Int32) (ν : gM), MS m ν → zF id (MS m) (k4 u0 u1 u2 ν)) {y1 y2 y4 : Int32} {μ : gM} (h : MS m μ) : zF id (MS m) (fX12_splitRead_n51 k4 y1 y2 y4 μ) := by
  unfold fX12_splitRead_n51
  exact (zF_bv (fun x6 => (zF_ite (fun _ => (uX12_splitRead_n65 hk4 h)) (fun _ => (zF_lv (fun x12 => (uX12_splitRead_n65 hk4 h)))))))
theorem uX12_splitRead_l4 {m : gM} : ∀ (n : Nat) (y1 y2 y3 : Int32) (μ : gM), MS m μ → zF id (MS m) (fX12_splitRead_l4  n y1 y2 y3 μ) := by
  intro n
  induction n with
  | zero => intro _ _ _ μ _; exact zF_none
  | succ n ih =>
    intro y1 y2 y3 μ h
    rw [fX12_splitRead_l4]
    exact (zF_bv (fun x1 => (zF_ite (fun _ => (uX12_splitRead_n88  h)) (fun _ => (zF_ite (fun _ => (uX12_splitRead_n88  h)) (fun _ => (zF_bp (uX12_oneRead  h) (fun x3 μ4 hμ4 => (zF_bv (fun x5 => (zF_ite (fun _ => (uX12_splitRead_n51 ih hμ4)) (fun _ => (zF_bv (fun x14 => (zF_ite (fun _ => (uX12_splitRead_n51 ih hμ4)) (fun _ => (zF_bm (uX12_fail  hμ4) (fun μ15 hμ15 => (uX12_splitRead_n51 ih hμ15)))))))))))))))))))
theorem uX12_splitRead {m : gM} {a1 : Int32} {μ : gM} (h : MS m μ) : zF id (MS m) (fX12_splitRead a1 μ) := by
  unfold fX12_splitRead
  exact (uX12_splitRead_l4  _ _ _ _ _ h)
theorem uX12_eventRead_n100 {m : gM} {y1 : Int32} {μ : gM} (h : MS m μ) : zF id (MS m) (fX12_eventRead_n100 y1 μ) := by
  unfold fX12_eventRead_n100
  exact (zF_bp (uX12_takes  h) (fun x9 μ10 hμ10 => (zF_ite (fun _ => (zF_bp (uX12_takes  hμ10) (fun x11 μ12 hμ12 => (zF_ite (fun _ => (zF_bp (uX12_takes  hμ12) (fun x13 μ14 hμ14 => (zF_ite (fun _ => (zF_bp (uX12_takes  hμ14) (fun x15 μ16 hμ16 => (zF_ite (fun _ => (zF_bp (uX12_takes  hμ16) (fun x17 μ18 hμ18 => (zF_ite (fun _ => (zF_bp (uX12_takes  hμ18) (fun x19 μ20 hμ20 => (zF_ite (fun _ => (zF_bp (uX12_takes  hμ20) (fun x21 μ22 hμ22 => (zF_ite (fun _ => (zF_bv (fun x23 => (zF_ite (fun _ => (uX12_eventRead_n284  hμ22)) (fun _ => (zF_bm (uX12_unlike  hμ22) (fun μ25 hμ25 => (uX12_eventRead_n284  hμ25)))))))) (fun _ => (zF_bm (uX12_wordRead  hμ22) (fun μ27 hμ27 => (uX12_eventRead_n284  hμ27)))))))) (fun _ => (zF_bm (uX12_laysEvent  hμ20) (fun μ29 hμ29 => (uX12_eventRead_n284  hμ29)))))))) (fun _ => (zF_bm (uX12_splitRead  hμ18) (fun μ31 hμ31 => (uX12_eventRead_n284  hμ31)))))))) (fun _ => (zF_bp (uX12_oneRead  hμ16) (fun x33 μ34 hμ34 => (zF_bm (uX12_laysEvent  hμ34) (fun μ35 hμ35 => (uX12_eventRead_n284  hμ35)))))))))) (fun _ => (zF_bp (uX12_oneRead  hμ14) (fun x37 μ38 hμ38 => (zF_bm (uX12_laysEvent  hμ38) (fun μ39 hμ39 => (uX12_eventRead_n284  hμ39)))))))))) (fun _ => (zF_bp (uX12_oneRead  hμ12) (fun x41 μ42 hμ42 => (zF_bm (uX12_laysEvent  hμ42) (fun μ43 hμ43 => (uX12_eventRead_n284  hμ43)))))))))) (fun _ => (zF_bp (uX12_oneRead  hμ10) (fun x45 μ46 hμ46 => (zF_bm (uX12_laysEvent  hμ46) (fun μ47 hμ47 => (uX12_eventRead_n284  hμ47)))))))))
theorem uX12_eventRead_n84 {m : gM} {y1 y2 : Int32} {μ : gM} (h : MS m μ) : zF id (MS m) (fX12_eventRead_n84 y1 y2 μ) := by
  unfold fX12_eventRead_n84
  exact (zF_bv (fun x8 => (zF_ite (fun _ => (uX12_eventRead_n100  h)) (fun _ => (zF_ck (zF_lm (MS_up h (Or.inl (by decide))) (fun μ50 hμ50 => (uX12_eventRead_n100  hμ50))))))))
theorem uX12_eventRead_n29 {m : gM} {y1 : Int32} {μ : gM} (h : MS m μ) : zF id (MS m) (fX12_eventRead_n29 y1 μ) := by
  unfold fX12_eventRead_n29
  exact (zF_bv (fun x3 => (zF_ite (fun _ => (zF_some h)) (fun _ => (zF_bm (uX12_pass  h) (fun μ4 hμ4 => (zF_bp (uX12_number  hμ4) (fun x5 μ6 hμ6 => (zF_bv (fun x7 => (zF_ite (fun _ => (uX12_eventRead_n84  hμ6)) (fun _ => (zF_ite (fun _ => (uX12_eventRead_n84  hμ6)) (fun _ => (zF_ck (zF_ite (fun _ => (uX12_eventRead_n84  hμ6)) (fun _ => (zF_bm (uX12_fail  hμ6) (fun μ53 hμ53 => (uX12_eventRead_n84  hμ53))))))))))))))))))))
theorem uX12_eventRead_n13 {m : gM} {y1 : Int32} {μ : gM} (h : MS m μ) : zF id (MS m) (fX12_eventRead_n13 y1 μ) := by
  unfold fX12_eventRead_n13
  exact (zF_ite (fun _ => (zF_bp (uX12_next  h) (fun x58 μ59 hμ59 => (zF_bm (uX12_fail  hμ59) (fun μ60 hμ60 => (uX12_eventRead_n29  hμ60)))))) (fun _ => (uX12_eventRead_n29  h)))
theorem uX12_eventRead {m : gM} {a1 : Int32} {μ : gM} (h : MS m μ) : zF id (MS m) (fX12_eventRead a1 μ) := by
  unfold fX12_eventRead
  exact (zF_bp (uX12_isWord  h) (fun x1 μ2 hμ2 => (zF_ite (fun _ => (zF_bm (uX12_unlike  hμ2) (fun μ62 hμ62 => (uX12_eventRead_n13  hμ62)))) (fun _ => (uX12_eventRead_n13  hμ2)))))
theorem uX12_isRead_n24 {m : gM} {z0 : Int32} {μ : gM} (h : MS m μ) : zF Prod.snd (MS m) (fX12_isRead_n24 z0 μ) := by
  unfold fX12_isRead_n24
  exact (zF_lm (MS_up h (Or.inr (by decide))) (fun μ2 hμ2 => (zF_ite (fun _ => (zF_some hμ2)) (fun _ => (zF_some hμ2)))))
theorem uX12_isRead {m : gM} {μ : gM} (h : MS m μ) : zF Prod.snd (MS m) (fX12_isRead μ) := by
  unfold fX12_isRead
  exact (zF_lm (MS_up h (Or.inr (by decide))) (fun μ1 hμ1 => (zF_ite (fun _ => (uX12_isRead_n24  hμ1)) (fun _ => (uX12_isRead_n24  hμ1)))))
theorem uX12_plan_l74 {m : gM} : ∀ (n : Nat) (y1 y2 : Int32) (μ : gM), MS m μ → zF Prod.snd (MS m) (fX12_plan_l74  n y1 y2 μ) := by
  intro n
  induction n with
  | zero => intro _ _ μ _; exact zF_none
  | succ n ih =>
    intro y1 y2 μ h
    rw [fX12_plan_l74]
    exact (zF_ite (fun _ => (zF_some h)) (fun _ => (zF_ck (zF_ck (zF_lm (MS_up h (Or.inl (by decide))) (fun μ10 hμ10 => (zF_lv (fun x11 => (ih _ _ _ hμ10)))))))))
theorem uX12_begins {m : gM} {μ : gM} (h : MS m μ) : zF id (MS m) (fX12_begins μ) := by
  unfold fX12_begins
  exact (zF_lm (MS_up h (Or.inr (by decide))) (fun μ1 hμ1 => (zF_lm (MS_up hμ1 (Or.inr (by decide))) (fun μ2 hμ2 => (zF_lm (MS_up hμ2 (Or.inr (by decide))) (fun μ3 hμ3 => (zF_lm (MS_up hμ3 (Or.inr (by decide))) (fun μ4 hμ4 => (zF_lm (MS_up hμ4 (Or.inr (by decide))) (fun μ5 hμ5 => (zF_lm (MS_up hμ5 (Or.inr (by decide))) (fun μ6 hμ6 => (zF_some hμ6)))))))))))))
theorem uX12_statementHere {m : gM} {μ : gM} (h : MS m μ) : zF Prod.snd (MS m) (fX12_statementHere μ) := by
  unfold fX12_statementHere
  exact (zF_bp (uX12_isWord  h) (fun x1 μ2 hμ2 => (zF_ite (fun _ => (zF_bp (uX12_isWord  hμ2) (fun x3 μ4 hμ4 => (zF_ite (fun _ => (zF_bp (uX12_isWord  hμ4) (fun x5 μ6 hμ6 => (zF_ite (fun _ => (zF_bp (uX12_isWord  hμ6) (fun x7 μ8 hμ8 => (zF_ite (fun _ => (zF_bp (uX12_isWord  hμ8) (fun x9 μ10 hμ10 => (zF_ite (fun _ => (zF_some hμ10)) (fun _ => (zF_some hμ10)))))) (fun _ => (zF_some hμ8)))))) (fun _ => (zF_some hμ6)))))) (fun _ => (zF_some hμ4)))))) (fun _ => (zF_some hμ2)))))
theorem uX12_statement_n58 {m : gM} {μ : gM} (h : MS m μ) : zF id (MS m) (fX12_statement_n58 μ) := by
  unfold fX12_statement_n58
  exact (zF_bm (uX12_needsSign  h) (fun μ4 hμ4 => (zF_some hμ4)))
theorem uX12_newRead_n101 {m : gM} {y1 y2 : Int32} {μ : gM} (h : MS m μ) : zF Prod.snd (MS m) (fX12_newRead_n101 y1 y2 μ) := by
  unfold fX12_newRead_n101
  exact (zF_bv (fun x10 => (zF_ite (fun _ => (zF_some h)) (fun _ => (zF_ck (zF_lm (MS_up h (Or.inl (by decide))) (fun μ12 hμ12 => (zF_bm (uX12_pass  hμ12) (fun μ13 hμ13 => (zF_some hμ13))))))))))
theorem uX12_newRead_l59 {m : gM} : ∀ (n : Nat) (y1 y2 y3 y4 : Int32) (μ : gM), MS m μ → zF Prod.snd (MS m) (fX12_newRead_l59  n y1 y2 y3 y4 μ) := by
  intro n
  induction n with
  | zero => intro _ _ _ _ μ _; exact zF_none
  | succ n ih =>
    intro y1 y2 y3 y4 μ h
    rw [fX12_newRead_l59]
    exact (zF_ite (fun _ => (uX12_newRead_n101  h)) (fun _ => (zF_bv (fun x15 => (zF_ite (fun _ => (uX12_newRead_n101  h)) (fun _ => (zF_bv (fun x16 => (zF_ite (fun _ => (zF_lv (fun x17 => (ih _ _ _ _ _ h)))) (fun _ => (zF_bm (uX12_fail  h) (fun μ18 hμ18 => (zF_lv (fun x19 => (ih _ _ _ _ _ hμ18)))))))))))))))
theorem uX12_newRead_n27 {m : gM} {y1 y2 : Int32} {μ : gM} (h : MS m μ) : zF Prod.snd (MS m) (fX12_newRead_n27 y1 y2 μ) := by
  unfold fX12_newRead_n27
  exact (zF_bv (fun x4 => (zF_ite (fun _ => (zF_some h)) (fun _ => (zF_bm (uX12_pass  h) (fun μ5 hμ5 => (zF_bp (uX12_next  hμ5) (fun x6 μ7 hμ7 => (zF_bp (uX12_isName  hμ7) (fun x8 μ9 hμ9 => (zF_ite (fun _ => (zF_bm (uX12_unlike  hμ9) (fun μ23 hμ23 => (uX12_newRead_l59  _ _ _ _ _ _ hμ23)))) (fun _ => (uX12_newRead_l59  _ _ _ _ _ _ hμ9)))))))))))))
theorem uX12_newRead {m : gM} {a1 : Int32} {μ : gM} (h : MS m μ) : zF Prod.snd (MS m) (fX12_newRead a1 μ) := by
  unfold fX12_newRead
  exact (zF_ck (zF_lv (fun x2 => (zF_bv (fun x3 => (zF_ite (fun _ => (zF_bp (uX12_next  h) (fun x26 μ27 hμ27 => (zF_bm (uX12_fail  hμ27) (fun μ28 hμ28 => (uX12_newRead_n27  hμ28)))))) (fun _ => (uX12_newRead_n27  h))))))))
theorem uX12_groupRead_n73 {m : gM} {y1 y2 y3 y4 z0 : Int32} {μ : gM} (h : MS m μ) : zF id (MS m) (fX12_groupRead_n73 y1 y2 y3 y4 z0 μ) := by
  unfold fX12_groupRead_n73
  exact (zF_bv (fun x12 => (zF_ite (fun _ => (zF_some h)) (fun _ => (zF_ck (zF_lm (MS_up h (Or.inl (by decide))) (fun μ14 hμ14 => (zF_ck (zF_lm (MS_up hμ14 (Or.inl (by decide))) (fun μ16 hμ16 => (zF_bv (fun x17 => (zF_ck (zF_lm (MS_up hμ16 (Or.inl (by decide))) (fun μ19 hμ19 => (zF_ck (zF_lm (MS_up hμ19 (Or.inl (by decide))) (fun μ21 hμ21 => (zF_lm (MS_up hμ21 (Or.inl (by decide))) (fun μ22 hμ22 => (zF_some hμ22)))))))))))))))))))))
theorem uX12_groupRead_n53 {m : gM} {y1 y2 y3 y4 : Int32} {μ : gM} (h : MS m μ) : zF id (MS m) (fX12_groupRead_n53 y1 y2 y3 y4 μ) := by
  unfold fX12_groupRead_n53
  exact (zF_bp (uX12_takes  h) (fun x10 μ11 hμ11 => (zF_ite (fun _ => (uX12_groupRead_n73  hμ11)) (fun _ => (zF_bp (uX12_number  hμ11) (fun x24 μ25 hμ25 => (uX12_groupRead_n73  hμ25)))))))
theorem uX12_groupRead {m : gM} {μ : gM} (h : MS m μ) : zF id (MS m) (fX12_groupRead μ) := by
  unfold fX12_groupRead
  exact (zF_bp (uX12_newRead  h) (fun x1 μ2 hμ2 => (zF_bm (uX12_asks  hμ2) (fun μ3 hμ3 => (zF_bp (uX12_number  hμ3) (fun x4 μ5 hμ5 => (zF_bp (uX12_takes  hμ5) (fun x6 μ7 hμ7 => (zF_ite (fun _ => (zF_bp (uX12_takes  hμ7) (fun x8 μ9 hμ9 => (uX12_groupRead_n53  hμ9)))) (fun _ => (zF_bp (uX12_number  hμ7) (fun x27 μ28 hμ28 => (uX12_groupRead_n53  hμ28)))))))))))))
theorem uX12_memberRead_n101 {m : gM} {y1 y3 y4 z0 : Int32} {μ : gM} (h : MS m μ) : zF id (MS m) (fX12_memberRead_n101 y1 y3 y4 z0 μ) := by
  unfold fX12_memberRead_n101
  exact (zF_bv (fun x14 => (zF_ite (fun _ => (zF_some h)) (fun _ => (zF_lv (fun x15 => (zF_ck (zF_ck (zF_lm (MS_up h (Or.inl (by decide))) (fun μ18 hμ18 => (zF_bv (fun x19 => (zF_ck (zF_lm (MS_up hμ18 (Or.inl (by decide))) (fun μ21 hμ21 => (zF_bv (fun x22 => (zF_ck (zF_lm (MS_up hμ21 (Or.inl (by decide))) (fun μ24 hμ24 => (zF_some hμ24)))))))))))))))))))))
theorem uX12_memberRead_n65 {m : gM} {y1 y3 : Int32} {μ : gM} (h : MS m μ) : zF id (MS m) (fX12_memberRead_n65 y1 y3 μ) := by
  unfold fX12_memberRead_n65
  exact (zF_bm (uX12_asks  h) (fun μ9 hμ9 => (zF_bp (uX12_number  hμ9) (fun x10 μ11 hμ11 => (zF_bp (uX12_takes  hμ11) (fun x12 μ13 hμ13 => (zF_ite (fun _ => (uX12_memberRead_n101  hμ13)) (fun _ => (zF_bp (uX12_number  hμ13) (fun x26 μ27 hμ27 => (uX12_memberRead_n101  hμ27)))))))))))
theorem uX12_memberRead {m : gM} {μ : gM} (h : MS m μ) : zF id (MS m) (fX12_memberRead μ) := by
  unfold fX12_memberRead
  exact (zF_bm (uX12_pass  h) (fun μ1 hμ1 => (zF_bp (uX12_oneRead  hμ1) (fun x2 μ3 hμ3 => (zF_lv (fun x4 => (zF_bm (uX12_asks  hμ3) (fun μ5 hμ5 => (zF_bp (uX12_oneRead  hμ5) (fun x6 μ7 hμ7 => (zF_bv (fun x8 => (zF_ite (fun _ => (uX12_memberRead_n65  hμ7)) (fun _ => (zF_ck (zF_bv (fun x30 => (zF_ite (fun _ => (uX12_memberRead_n65  hμ7)) (fun _ => (zF_bm (uX12_fail  hμ7) (fun μ31 hμ31 => (uX12_memberRead_n65  hμ31))))))))))))))))))))))
theorem uX12_trackRead_n138 {m : gM} {y1 y2 y3 y4 : Int32} {μ : gM} (h : MS m μ) : zF id (MS m) (fX12_trackRead_n138 y1 y2 y3 y4 μ) := by
  unfold fX12_trackRead_n138
  exact (zF_bm (uX12_asks  h) (fun μ14 hμ14 => (zF_bp (uX12_number  hμ14) (fun x15 μ16 hμ16 => (zF_bv (fun x17 => (zF_ite (fun _ => (zF_some hμ16)) (fun _ => (zF_ck (zF_lm (MS_up hμ16 (Or.inl (by decide))) (fun μ19 hμ19 => (zF_ck (zF_lm (MS_up hμ19 (Or.inl (by decide))) (fun μ21 hμ21 => (zF_ck (zF_lm (MS_up hμ21 (Or.inl (by decide))) (fun μ23 hμ23 => (zF_ck (zF_lm (MS_up hμ23 (Or.inl (by decide))) (fun μ25 hμ25 => (zF_lm (MS_up hμ25 (Or.inl (by decide))) (fun μ26 hμ26 => (zF_some hμ26)))))))))))))))))))))))
theorem uX12_trackRead_n94 {m : gM} {y1 y2 y3 : Int32} {μ : gM} (h : MS m μ) : zF id (MS m) (fX12_trackRead_n94 y1 y2 y3 μ) := by
  unfold fX12_trackRead_n94
  exact (zF_bm (uX12_asks  h) (fun μ10 hμ10 => (zF_bp (uX12_oneRead  hμ10) (fun x11 μ12 hμ12 => (zF_bv (fun x13 => (zF_ite (fun _ => (uX12_trackRead_n138  hμ12)) (fun _ => (zF_bv (fun x28 => (zF_ite (fun _ => (uX12_trackRead_n138  hμ12)) (fun _ => (zF_bm (uX12_fail  hμ12) (fun μ29 hμ29 => (uX12_trackRead_n138  hμ29)))))))))))))))
theorem uX12_trackRead_n23 {m : gM} {y1 : Int32} {μ : gM} (h : MS m μ) : zF id (MS m) (fX12_trackRead_n23 y1 μ) := by
  unfold fX12_trackRead_n23
  exact (zF_bv (fun x2 => (zF_ite (fun _ => (zF_some h)) (fun _ => (zF_bm (uX12_pass  h) (fun μ3 hμ3 => (zF_bp (uX12_oneRead  hμ3) (fun x4 μ5 hμ5 => (zF_bm (uX12_asks  hμ5) (fun μ6 hμ6 => (zF_bp (uX12_oneRead  hμ6) (fun x7 μ8 hμ8 => (zF_bv (fun x9 => (zF_ite (fun _ => (uX12_trackRead_n94  hμ8)) (fun _ => (zF_ck (zF_bv (fun x33 => (zF_ite (fun _ => (zF_bm (uX12_fail  hμ8) (fun μ34 hμ34 => (uX12_trackRead_n94  hμ34)))) (fun _ => (uX12_trackRead_n94  hμ8))))))))))))))))))))))
theorem uX12_trackRead {m : gM} {μ : gM} (h : MS m μ) : zF id (MS m) (fX12_trackRead μ) := by
  unfold fX12_trackRead
  exact (zF_lv (fun x1 => (zF_ite (fun _ => (zF_bp (uX12_next  h) (fun x38 μ39 hμ39 => (zF_bm (uX12_fail  hμ39) (fun μ40 hμ40 => (uX12_trackRead_n23  hμ40)))))) (fun _ => (uX12_trackRead_n23  h)))))
theorem uX12_namesRead {m : gM} {a1 : Int32} {μ : gM} (h : MS m μ) : zF id (MS m) (fX12_namesRead a1 μ) := by
  unfold fX12_namesRead
  exact (zF_bp (uX12_newRead  h) (fun x1 μ2 hμ2 => (zF_bv (fun x3 => (zF_ite (fun _ => (zF_some hμ2)) (fun _ => (zF_lv (fun x4 => (zF_ck (zF_ck (zF_lm (MS_up hμ2 (Or.inl (by decide))) (fun μ7 hμ7 => (zF_some hμ7)))))))))))))
theorem uX12_statement {m : gM} {μ : gM} (h : MS m μ) : zF id (MS m) (fX12_statement μ) := by
  unfold fX12_statement
  exact (zF_bp (uX12_statementHere  h) (fun x1 μ2 hμ2 => (zF_ite (fun _ => (zF_bm (uX12_unlike  hμ2) (fun μ11 hμ11 => (uX12_statement_n58  hμ11)))) (fun _ => (zF_ite (fun _ => (zF_bm (uX12_groupRead  hμ2) (fun μ9 hμ9 => (uX12_statement_n58  hμ9)))) (fun _ => (zF_ite (fun _ => (zF_ite (fun _ => (zF_bm (uX12_memberRead  hμ2) (fun μ5 hμ5 => (uX12_statement_n58  hμ5)))) (fun _ => (zF_bm (uX12_trackRead  hμ2) (fun μ3 hμ3 => (uX12_statement_n58  hμ3)))))) (fun _ => (zF_bm (uX12_namesRead  hμ2) (fun μ7 hμ7 => (uX12_statement_n58  hμ7)))))))))))
/-! the tape fed -/
def FQ2 (m μ : gM) : Prop := (∀ a, a ≠ 267 → a ≠ 268 → μ a = m a) ∧ ∀ i, i ≠ 0 → i ≠ 2 → μ 267 i = m 267 i
theorem FQ2_up {m μ : gM} {c i : Nat} {v : Int32} (h : FQ2 m μ) (hc : c = 268 ∨ (c = 267 ∧ (i = 0 ∨ i = 2))) : FQ2 m (gUp μ c i v) := ⟨fun a h1 h2 => by rw [zUp_ne _ (by omega)]; exact h.1 a h1 h2, fun j h0 h2 => by
  rcases hc with hc | ⟨hc, ni⟩
  · rw [zUp_ne _ (by omega)]; exact h.2 j h0 h2
  · subst hc
    rw [zUp_slot _ (by omega)]; exact h.2 j h0 h2⟩
theorem vqX12_puts_l3 {m : gM} : ∀ (n : Nat) (y1 y2 : Int32) (μ : gM), FQ2 m μ → zF id (FQ2 m) (fX12_puts_l3  n y1 y2 μ) := by
  intro n
  induction n with
  | zero => intro _ _ μ _; exact zF_none
  | succ n ih =>
    intro y1 y2 μ h
    rw [fX12_puts_l3]
    exact (zF_ite (fun _ => (zF_some h)) (fun _ => (zF_ck (zF_lm (FQ2_up h (Or.inl rfl)) (fun μ2 hμ2 => (zF_lm (FQ2_up hμ2 (Or.inr ⟨rfl, Or.inr rfl⟩)) (fun μ3 hμ3 => (zF_lv (fun x4 => (ih _ _ _ hμ3))))))))))
theorem vqX12_puts {m : gM} {a1 : Int32} {μ : gM} (h : FQ2 m μ) : zF id (FQ2 m) (fX12_puts a1 μ) := by
  unfold fX12_puts
  exact (vqX12_puts_l3  _ _ _ _ h)
theorem vqX12_feed {m : gM} {a1 a2 a3 a4 a5 : Int32} {μ : gM} (h : FQ2 m μ) : zF Prod.snd (FQ2 m) (fX12_feed a1 a2 a3 a4 a5 μ) := by
  unfold fX12_feed
  exact (zF_lm (FQ2_up h (Or.inr ⟨rfl, Or.inl rfl⟩)) (fun μ1 hμ1 => (zF_ite (fun _ => (zF_bm (vqX12_puts  hμ1) (fun μ2 hμ2 => (zF_bm (vqX12_puts  hμ2) (fun μ3 hμ3 => (zF_bm (vqX12_puts  hμ3) (fun μ4 hμ4 => (zF_bm (vqX12_puts  hμ4) (fun μ5 hμ5 => (zF_bm (vqX12_puts  hμ5) (fun μ6 hμ6 => (zF_some hμ6)))))))))))) (fun _ => (zF_some hμ1)))))
theorem vqX12_end {m : gM} {a1 : Int32} {μ : gM} (h : FQ2 m μ) : zF Prod.snd (FQ2 m) (fX12_end a1 μ) := by
  unfold fX12_end
  exact (zF_lm (FQ2_up h (Or.inr ⟨rfl, Or.inl rfl⟩)) (fun μ1 hμ1 => (zF_bv (fun x2 => (zF_ite (fun _ => (zF_some hμ1)) (fun _ => (zF_lm (FQ2_up hμ1 (Or.inr ⟨rfl, Or.inr rfl⟩)) (fun μ3 hμ3 => (zF_some hμ3)))))))))
/-! banks as they were -/
def R3 (m μ : gM) : Prop := μ 273 = m 273
theorem R3_up {m μ : gM} {c i : Nat} {v : Int32} (h : R3 m μ) (hc : c ≠ 273) : R3 m (gUp μ c i v) := by
  unfold R3
  rw [zUp_ne _ (Ne.symm hc)]; exact h
theorem z3X12_tickGoes_l78 {m : gM} : ∀ (n : Nat) (y1 : Int32) (μ : gM), R3 m μ → zF id (R3 m) (fX12_tickGoes_l78  n y1 μ) := by
  intro n
  induction n with
  | zero => intro _ μ _; exact zF_none
  | succ n ih =>
    intro y1 μ h
    rw [fX12_tickGoes_l78]
    exact (zF_bv (fun x3 => (zF_ite (fun _ => (zF_some h)) (fun _ => (zF_lv (fun x4 => (zF_ck (zF_bv (fun x6 => (zF_bv (fun x7 => (zF_ck (zF_lm (R3_up h (by decide)) (fun μ9 hμ9 => (zF_lv (fun x10 => (zF_ck (zF_bv (fun x12 => (zF_bv (fun x13 => (zF_ck (zF_lm (R3_up hμ9 (by decide)) (fun μ15 hμ15 => (zF_lv (fun x16 => (ih _ _ hμ15)))))))))))))))))))))))))))
theorem z3X12_isLost_n66 {m : gM} {z0 : Int32} {μ : gM} (h : R3 m μ) : zF Prod.snd (R3 m) (fX12_isLost_n66 z0 μ) := by
  unfold fX12_isLost_n66
  exact (zF_bv (fun x3 => (zF_lm (R3_up h (by decide)) (fun μ4 hμ4 => (zF_ck (zF_some hμ4))))))
theorem z3X12_isLost {m : gM} {μ : gM} (h : R3 m μ) : zF Prod.snd (R3 m) (fX12_isLost μ) := by
  unfold fX12_isLost
  exact (zF_ite (fun _ => (zF_some h)) (fun _ => (zF_lv (fun x1 => (zF_lm (R3_up h (by decide)) (fun μ2 hμ2 => (zF_ite (fun _ => (z3X12_isLost_n66  hμ2)) (fun _ => (z3X12_isLost_n66  hμ2)))))))))
theorem z3X12_reads_n83 {m : gM} {y1 y3 y4 : Int32} {μ : gM} (h : R3 m μ) : zF id (R3 m) (fX12_reads_n83 y1 y3 y4 μ) := by
  unfold fX12_reads_n83
  exact (zF_ck (zF_lm (R3_up h (by decide)) (fun μ7 hμ7 => (zF_bv (fun x8 => (zF_ck (zF_lm (R3_up hμ7 (by decide)) (fun μ10 hμ10 => (zF_some hμ10)))))))))
theorem z3X12_logs_l24 {m : gM} : ∀ (n : Nat) (y1 y2 y3 y4 y5 : Int32) (μ : gM), R3 m μ → zF id (R3 m) (fX12_logs_l24  n y1 y2 y3 y4 y5 μ) := by
  intro n
  induction n with
  | zero => intro _ _ _ _ _ μ _; exact zF_none
  | succ n ih =>
    intro y1 y2 y3 y4 y5 μ h
    rw [fX12_logs_l24]
    exact (zF_ite (fun _ => (zF_lm (R3_up h (by decide)) (fun μ3 hμ3 => (zF_lm (R3_up hμ3 (by decide)) (fun μ4 hμ4 => (zF_lm (R3_up hμ4 (by decide)) (fun μ5 hμ5 => (zF_lm (R3_up hμ5 (by decide)) (fun μ6 hμ6 => (zF_lm (R3_up hμ6 (by decide)) (fun μ7 hμ7 => (zF_some hμ7)))))))))))) (fun _ => (zF_ck (zF_ck (zF_lm (R3_up h (by decide)) (fun μ10 hμ10 => (zF_lv (fun x11 => (ih _ _ _ _ _ _ hμ10)))))))))
theorem z3X12_logs {m : gM} {a1 a2 a3 : Int32} {μ : gM} (h : R3 m μ) : zF id (R3 m) (fX12_logs a1 a2 a3 μ) := by
  unfold fX12_logs
  exact (zF_bv (fun x1 => (zF_lv (fun x2 => (z3X12_logs_l24  _ _ _ _ _ _ _ h)))))
theorem z3X12_toHold {m : gM} {a1 a2 : Int32} {μ : gM} (h : R3 m μ) : zF id (R3 m) (fX12_toHold a1 a2 μ) := by
  unfold fX12_toHold
  exact (zF_bv (fun x1 => (zF_ck (zF_lm (R3_up h (by decide)) (fun μ3 hμ3 => (zF_bv (fun x4 => (zF_ck (zF_lm (R3_up hμ3 (by decide)) (fun μ6 hμ6 => (zF_bv (fun x7 => (zF_ck (zF_lm (R3_up hμ6 (by decide)) (fun μ9 hμ9 => (zF_lv (fun x10 => (zF_ck (zF_ck (zF_lm (R3_up hμ9 (by decide)) (fun μ13 hμ13 => (zF_lm (R3_up hμ13 (by decide)) (fun μ14 hμ14 => (zF_bm (z3X12_logs  hμ14) (fun μ15 hμ15 => (zF_some hμ15))))))))))))))))))))))))))
theorem z3X12_reads_n142 {m : gM} {y1 y3 y4 : Int32} {μ : gM} (h : R3 m μ) : zF id (R3 m) (fX12_reads_n142 y1 y3 y4 μ) := by
  unfold fX12_reads_n142
  exact (zF_ck (zF_ck (zF_ite (fun _ => (zF_bv (fun x15 => (zF_ck (zF_lm (R3_up h (by decide)) (fun μ17 hμ17 => (zF_some hμ17))))))) (fun _ => (zF_bm (z3X12_toHold  h) (fun μ18 hμ18 => (zF_some hμ18)))))))
theorem z3X12_toWait {m : gM} {a1 a2 : Int32} {μ : gM} (h : R3 m μ) : zF id (R3 m) (fX12_toWait a1 a2 μ) := by
  unfold fX12_toWait
  exact (zF_bv (fun x1 => (zF_ck (zF_lm (R3_up h (by decide)) (fun μ3 hμ3 => (zF_bv (fun x4 => (zF_bv (fun x5 => (zF_ck (zF_lm (R3_up hμ3 (by decide)) (fun μ7 hμ7 => (zF_bv (fun x8 => (zF_ck (zF_lm (R3_up hμ7 (by decide)) (fun μ10 hμ10 => (zF_some hμ10))))))))))))))))))
theorem z3X12_reads {m : gM} {a1 a2 a3 : Int32} {μ : gM} (h : R3 m μ) : zF id (R3 m) (fX12_reads a1 a2 a3 μ) := by
  unfold fX12_reads
  exact (zF_bv (fun x1 => (zF_ck (zF_bv (fun x3 => (zF_bv (fun x4 => (zF_bv (fun x5 => (zF_ite (fun _ => (zF_ite (fun _ => (zF_ck (zF_ite (fun _ => (z3X12_reads_n83  h)) (fun _ => (zF_ck (zF_ite (fun _ => (zF_ck (zF_lm (R3_up h (by decide)) (fun μ21 hμ21 => (z3X12_reads_n142  hμ21))))) (fun _ => (z3X12_reads_n142  h)))))))) (fun _ => (z3X12_reads_n83  h)))) (fun _ => (zF_ite (fun _ => (zF_some h)) (fun _ => (zF_lm (R3_up h (by decide)) (fun μ25 hμ25 => (zF_bm (z3X12_toWait  hμ25) (fun μ26 hμ26 => (zF_bm (z3X12_logs  hμ26) (fun μ27 hμ27 => (zF_some hμ27))))))))))))))))))))
theorem z3X12_groupGoes_l118 {m : gM} {k96 : Int32 → Int32 → gM → Option gM} (hk96 : ∀ (u0 u1 : Int32) (ν : gM), R3 m ν → zF id (R3 m) (k96 u0 u1 ν)) : ∀ (n : Nat) (y1 y2 y3 : Int32) (μ : gM), R3 m μ → zF id (R3 m) (fX12_groupGoes_l118 k96 n y1 y2 y3 μ) := by
  intro n
  induction n with
  | zero => intro _ _ _ μ _; exact zF_none
  | succ n ih =>
    intro y1 y2 y3 μ h
    rw [fX12_groupGoes_l118]
    exact (zF_bv (fun x5 => (zF_ite (fun _ => (zF_lv (fun x6 => (hk96 _ _ _ h)))) (fun _ => (zF_ite (fun _ => (zF_lv (fun x7 => (ih _ _ _ _ h)))) (fun _ => (zF_bv (fun x8 => (zF_ck (zF_ite (fun _ => (zF_lv (fun x10 => (ih _ _ _ _ h)))) (fun _ => (zF_bv (fun x11 => (zF_ite (fun _ => (zF_lv (fun x12 => (ih _ _ _ _ h)))) (fun _ => (zF_bp (z3X12_isLost  h) (fun x13 μ14 hμ14 => (zF_ite (fun _ => (zF_bm (z3X12_reads  hμ14) (fun μ16 hμ16 => (zF_lv (fun x17 => (ih _ _ _ _ hμ16)))))) (fun _ => (zF_lv (fun x15 => (ih _ _ _ _ hμ14))))))))))))))))))))))
theorem z3X12_groupGoes_l96 {m : gM} : ∀ (n : Nat) (y1 y2 : Int32) (μ : gM), R3 m μ → zF id (R3 m) (fX12_groupGoes_l96  n y1 y2 μ) := by
  intro n
  induction n with
  | zero => intro _ _ μ _; exact zF_none
  | succ n ih =>
    intro y1 y2 μ h
    rw [fX12_groupGoes_l96]
    exact (zF_bv (fun x3 => (zF_ite (fun _ => (zF_some h)) (fun _ => (zF_ck (zF_ite (fun _ => (zF_lv (fun x23 => (ih _ _ _ h)))) (fun _ => (z3X12_groupGoes_l118 ih _ _ _ _ _ h))))))))
theorem z3X12_groupGoes_l47 {m : gM} : ∀ (n : Nat) (y1 y2 : Int32) (μ : gM), R3 m μ → zF id (R3 m) (fX12_groupGoes_l47  n y1 y2 μ) := by
  intro n
  induction n with
  | zero => intro _ _ μ _; exact zF_none
  | succ n ih =>
    intro y1 y2 μ h
    rw [fX12_groupGoes_l47]
    exact (zF_bv (fun x2 => (zF_ite (fun _ => (z3X12_groupGoes_l96  _ _ _ _ h)) (fun _ => (zF_bv (fun x26 => (zF_ck (zF_ite (fun _ => (zF_lv (fun x28 => (ih _ _ _ h)))) (fun _ => (zF_bv (fun x29 => (zF_lv (fun x30 => (zF_ck (zF_ck (zF_lm (R3_up h (by decide)) (fun μ33 hμ33 => (zF_lv (fun x34 => (ih _ _ _ hμ33))))))))))))))))))))
theorem z3X12_sends_n44 {m : gM} {y1 y2 y3 : Int32} {μ : gM} (h : R3 m μ) : zF id (R3 m) (fX12_sends_n44 y1 y2 y3 μ) := by
  unfold fX12_sends_n44
  exact (zF_bv (fun x5 => (zF_ite (fun _ => (zF_some h)) (fun _ => (zF_ck (zF_ite (fun _ => (zF_bv (fun x7 => (zF_ck (zF_lm (R3_up h (by decide)) (fun μ9 hμ9 => (zF_lm (R3_up hμ9 (by decide)) (fun μ10 hμ10 => (zF_ck (zF_ck (zF_lm (R3_up hμ10 (by decide)) (fun μ13 hμ13 => (zF_some hμ13))))))))))))) (fun _ => (zF_some h))))))))
theorem z3X12_sends {m : gM} {a1 a2 : Int32} {μ : gM} (h : R3 m μ) : zF id (R3 m) (fX12_sends a1 a2 μ) := by
  unfold fX12_sends
  exact (zF_bv (fun x1 => (zF_ck (zF_lm (R3_up h (by decide)) (fun μ3 hμ3 => (zF_ck (zF_ite (fun _ => (zF_ck (zF_ite (fun _ => (z3X12_sends_n44  hμ3)) (fun _ => (zF_bm (z3X12_toHold  hμ3) (fun μ17 hμ17 => (z3X12_sends_n44  hμ17))))))) (fun _ => (z3X12_sends_n44  hμ3)))))))))
theorem z3X12_groupGoes_l2 {m : gM} : ∀ (n : Nat) (y1 y2 : Int32) (μ : gM), R3 m μ → zF id (R3 m) (fX12_groupGoes_l2  n y1 y2 μ) := by
  intro n
  induction n with
  | zero => intro _ _ μ _; exact zF_none
  | succ n ih =>
    intro y1 y2 μ h
    rw [fX12_groupGoes_l2]
    exact (zF_bv (fun x1 => (zF_ite (fun _ => (z3X12_groupGoes_l47  _ _ _ _ h)) (fun _ => (zF_ck (zF_lm (R3_up h (by decide)) (fun μ38 hμ38 => (zF_bv (fun x39 => (zF_ck (zF_ite (fun _ => (zF_lv (fun x41 => (ih _ _ _ hμ38)))) (fun _ => (zF_bm (z3X12_sends  hμ38) (fun μ42 hμ42 => (zF_lv (fun x43 => (ih _ _ _ hμ42)))))))))))))))))
theorem z3X12_groupGoes {m : gM} {a1 : Int32} {μ : gM} (h : R3 m μ) : zF id (R3 m) (fX12_groupGoes a1 μ) := by
  unfold fX12_groupGoes
  exact (z3X12_groupGoes_l2  _ _ _ _ h)
theorem z3X12_tickGoes_l47 {m : gM} : ∀ (n : Nat) (y1 : Int32) (μ : gM), R3 m μ → zF id (R3 m) (fX12_tickGoes_l47  n y1 μ) := by
  intro n
  induction n with
  | zero => intro _ μ _; exact zF_none
  | succ n ih =>
    intro y1 μ h
    rw [fX12_tickGoes_l47]
    exact (zF_bv (fun x1 => (zF_ite (fun _ => (zF_lm (R3_up h (by decide)) (fun μ2 hμ2 => (z3X12_tickGoes_l78  _ _ _ hμ2)))) (fun _ => (zF_bm (z3X12_groupGoes  h) (fun μ18 hμ18 => (zF_lv (fun x19 => (ih _ _ hμ18)))))))))
theorem z3X12_comesUp_l14 {m : gM} : ∀ (n : Nat) (y1 y2 : Int32) (μ : gM), R3 m μ → zF id (R3 m) (fX12_comesUp_l14  n y1 y2 μ) := by
  intro n
  induction n with
  | zero => intro _ _ μ _; exact zF_none
  | succ n ih =>
    intro y1 y2 μ h
    rw [fX12_comesUp_l14]
    exact (zF_bv (fun x2 => (zF_ite (fun _ => (zF_some h)) (fun _ => (zF_bv (fun x3 => (zF_ite (fun _ => (zF_lv (fun x10 => (ih _ _ _ h)))) (fun _ => (zF_bv (fun x4 => (zF_ite (fun _ => (zF_bm (z3X12_toHold  h) (fun μ7 hμ7 => (zF_lv (fun x8 => (ih _ _ _ hμ7)))))) (fun _ => (zF_bm (z3X12_toWait  h) (fun μ5 hμ5 => (zF_lv (fun x6 => (ih _ _ _ hμ5)))))))))))))))))
theorem z3X12_comesUp {m : gM} {a1 : Int32} {μ : gM} (h : R3 m μ) : zF id (R3 m) (fX12_comesUp a1 μ) := by
  unfold fX12_comesUp
  exact (zF_lm (R3_up h (by decide)) (fun μ1 hμ1 => (z3X12_comesUp_l14  _ _ _ _ hμ1)))
theorem z3X12_farewell_l12 {m : gM} : ∀ (n : Nat) (y1 y2 y3 : Int32) (μ : gM), R3 m μ → zF id (R3 m) (fX12_farewell_l12  n y1 y2 y3 μ) := by
  intro n
  induction n with
  | zero => intro _ _ _ μ _; exact zF_none
  | succ n ih =>
    intro y1 y2 y3 μ h
    rw [fX12_farewell_l12]
    exact (zF_bv (fun x2 => (zF_ite (fun _ => (zF_some h)) (fun _ => (zF_bv (fun x3 => (zF_ck (zF_ite (fun _ => (zF_bv (fun x6 => (zF_ite (fun _ => (zF_lv (fun x7 => (ih _ _ _ _ h)))) (fun _ => (zF_ck (zF_bv (fun x9 => (zF_bv (fun x10 => (zF_bv (fun x11 => (zF_ck (zF_lm (R3_up h (by decide)) (fun μ13 hμ13 => (zF_lv (fun x14 => (ih _ _ _ _ hμ13)))))))))))))))))) (fun _ => (zF_lv (fun x5 => (ih _ _ _ _ h))))))))))))
theorem z3X12_farewell {m : gM} {a1 a2 : Int32} {μ : gM} (h : R3 m μ) : zF id (R3 m) (fX12_farewell a1 a2 μ) := by
  unfold fX12_farewell
  exact (zF_lm (R3_up h (by decide)) (fun μ1 hμ1 => (z3X12_farewell_l12  _ _ _ _ _ hμ1)))
theorem z3X12_goesDown_l19 {m : gM} : ∀ (n : Nat) (y1 y2 y3 y4 : Int32) (μ : gM), R3 m μ → zF Prod.snd (R3 m) (fX12_goesDown_l19  n y1 y2 y3 y4 μ) := by
  intro n
  induction n with
  | zero => intro _ _ _ _ μ _; exact zF_none
  | succ n ih =>
    intro y1 y2 y3 y4 μ h
    rw [fX12_goesDown_l19]
    exact (zF_bv (fun x2 => (zF_ite (fun _ => (zF_some h)) (fun _ => (zF_bv (fun x3 => (zF_bv (fun x4 => (zF_ck (zF_lm (R3_up h (by decide)) (fun μ6 hμ6 => (zF_ck (zF_lm (R3_up hμ6 (by decide)) (fun μ8 hμ8 => (zF_ck (zF_lm (R3_up hμ8 (by decide)) (fun μ10 hμ10 => (zF_ite (fun _ => (zF_lv (fun x17 => (ih _ _ _ _ _ hμ10)))) (fun _ => (zF_lv (fun x11 => (zF_bm (z3X12_logs  hμ10) (fun μ12 hμ12 => (zF_ite (fun _ => (zF_lv (fun x13 => (ih _ _ _ _ _ hμ12)))) (fun _ => (zF_bm (z3X12_farewell  hμ12) (fun μ14 hμ14 => (zF_lv (fun x15 => (ih _ _ _ _ _ hμ14))))))))))))))))))))))))))))))
theorem z3X12_goesDown {m : gM} {a1 a2 : Int32} {μ : gM} (h : R3 m μ) : zF Prod.snd (R3 m) (fX12_goesDown a1 a2 μ) := by
  unfold fX12_goesDown
  exact (zF_lm (R3_up h (by decide)) (fun μ1 hμ1 => (z3X12_goesDown_l19  _ _ _ _ _ _ hμ1)))
theorem z3X12_happens {m : gM} {a1 : Int32} {μ : gM} (h : R3 m μ) : zF id (R3 m) (fX12_happens a1 μ) := by
  unfold fX12_happens
  exact (zF_ck (zF_lv (fun x2 => (zF_ck (zF_lv (fun x4 => (zF_ite (fun _ => (zF_bv (fun x6 => (zF_ite (fun _ => (zF_bm (z3X12_comesUp  h) (fun μ7 hμ7 => (zF_some hμ7)))) (fun _ => (zF_some h)))))) (fun _ => (zF_ite (fun _ => (zF_bv (fun x10 => (zF_ite (fun _ => (zF_some h)) (fun _ => (zF_bp (z3X12_goesDown  h) (fun x11 μ12 hμ12 => (zF_some hμ12)))))))) (fun _ => (zF_ite (fun _ => (zF_lm (R3_up h (by decide)) (fun μ15 hμ15 => (zF_some hμ15)))) (fun _ => (zF_ite (fun _ => (zF_lm (R3_up h (by decide)) (fun μ17 hμ17 => (zF_some hμ17)))) (fun _ => (zF_ite (fun _ => (zF_lm (R3_up h (by decide)) (fun μ19 hμ19 => (zF_some hμ19)))) (fun _ => (zF_ite (fun _ => (zF_lm (R3_up h (by decide)) (fun μ21 hμ21 => (zF_some hμ21)))) (fun _ => (zF_ck (zF_bv (fun x23 => (zF_ck (zF_ck (zF_lm (R3_up h (by decide)) (fun μ26 hμ26 => (zF_some hμ26))))))))))))))))))))))))))
theorem z3X12_tickGoes_l2 {m : gM} : ∀ (n : Nat) (y1 : Int32) (μ : gM), R3 m μ → zF id (R3 m) (fX12_tickGoes_l2  n y1 μ) := by
  intro n
  induction n with
  | zero => intro _ μ _; exact zF_none
  | succ n ih =>
    intro y1 μ h
    rw [fX12_tickGoes_l2]
    exact (zF_ite (fun _ => (z3X12_tickGoes_l47  _ _ _ h)) (fun _ => (zF_ck (zF_ite (fun _ => (zF_bm (z3X12_happens  h) (fun μ23 hμ23 => (zF_lv (fun x24 => (ih _ _ hμ23)))))) (fun _ => (zF_lv (fun x22 => (ih _ _ h))))))))
theorem z3X12_tickGoes {m : gM} {μ : gM} (h : R3 m μ) : zF id (R3 m) (fX12_tickGoes μ) := by
  unfold fX12_tickGoes
  exact (z3X12_tickGoes_l2  _ _ _ h)
theorem z3X12_ticks_l47 {m : gM} : ∀ (n : Nat) (y1 y2 : Int32) (μ : gM), R3 m μ → zF Prod.snd (R3 m) (fX12_ticks_l47  n y1 y2 μ) := by
  intro n
  induction n with
  | zero => intro _ _ μ _; exact zF_none
  | succ n ih =>
    intro y1 y2 μ h
    rw [fX12_ticks_l47]
    exact (zF_ite (fun _ => (zF_some h)) (fun _ => (zF_bm (z3X12_tickGoes  h) (fun μ4 hμ4 => (zF_lv (fun x5 => (ih _ _ _ hμ4)))))))
