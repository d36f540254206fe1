/-! frames of the reference's readers by inversion (written by gen_sb.py): a fault stays -/
def SB (m μ : gM) : Prop := m 267 6 ≠ 0 → μ 267 6 ≠ 0
theorem SB_up {m μ : gM} {c i : Nat} {v : Int32} (h : SB m μ) (hc : c ≠ 267 ∨ i ≠ 6) : SB m (gUp μ c i v) := fun w => by
  have := h w
  rcases hc with hc | hc
  · rw [zUp_ne _ (Ne.symm hc)]; exact this
  · by_cases e : c = 267
    · subst e; rw [zUp_slot _ (Ne.symm hc)]; exact this
    · rw [zUp_ne _ (Ne.symm e)]; exact this
theorem bX12_fail {m : gM} {a1 a2 : Int32} {μ : gM} (h : SB m μ) : zF id (SB m) (fX12_fail a1 a2 μ) := by
  intro r e w
  have := h w
  unfold fX12_fail at e
  rw [if_neg this] at e
  obtain rfl := Option.some.inj e
  exact this
theorem bX12_next_n39 {m : gM} {k0 : gM → Option (Int32 × gM)} (hk0 : ∀ (ν : gM), SB m ν → zF Prod.snd (SB m) (k0  ν)) {μ : gM} (h : SB m μ) : zF Prod.snd (SB m) (fX12_next_n39 k0 μ) := by
  unfold fX12_next_n39
  exact (zF_lm (SB_up h (Or.inr (by decide))) (fun μ2 hμ2 => (hk0  _ hμ2)))
theorem bX12_next_l0 {m : gM} : ∀ (n : Nat) (μ : gM), SB m μ → zF Prod.snd (SB m) (fX12_next_l0  n  μ) := by
  intro n
  induction n with
  | zero => intro  μ _; exact zF_none
  | succ n ih =>
    intro  μ h
    rw [fX12_next_l0]
    exact (zF_ite (fun _ => (zF_some h)) (fun _ => (zF_ck (zF_ite (fun _ => (bX12_next_n39 ih h)) (fun _ => (zF_ck (zF_ite (fun _ => (bX12_next_n39 ih h)) (fun _ => (zF_some h)))))))))
theorem bX12_next {m : gM} {μ : gM} (h : SB m μ) : zF Prod.snd (SB m) (fX12_next μ) := by
  unfold fX12_next
  exact (bX12_next_l0  _  _ h)
theorem bX12_seesWord_n82 {m : gM} {k33 : Int32 → gM → Option (Int32 × gM)} (hk33 : ∀ (u0 : Int32) (ν : gM), SB m ν → zF Prod.snd (SB m) (k33 u0 ν)) {y1 z0 : Int32} {μ : gM} (h : SB m μ) : zF Prod.snd (SB m) (fX12_seesWord_n82 k33 y1 z0 μ) := by
  unfold fX12_seesWord_n82
  exact (zF_lm (SB_up h (Or.inr (by decide))) (fun μ8 hμ8 => (zF_lm (SB_up hμ8 (Or.inr (by decide))) (fun μ9 hμ9 => (hk33 _ _ hμ9)))))
theorem bX12_seesWord_l33 {m : gM} : ∀ (n : Nat) (y1 : Int32) (μ : gM), SB m μ → zF Prod.snd (SB m) (fX12_seesWord_l33  n y1 μ) := by
  intro n
  induction n with
  | zero => intro _ μ _; exact zF_none
  | succ n ih =>
    intro y1 μ h
    rw [fX12_seesWord_l33]
    exact (zF_bv (fun x6 => (zF_ite (fun _ => (zF_ite (fun _ => (zF_some h)) (fun _ => (zF_some h)))) (fun _ => (zF_ite (fun _ => (bX12_seesWord_n82 ih h)) (fun _ => (zF_ck (bX12_seesWord_n82 ih h))))))))
theorem bX12_seesWord {m : gM} {μ : gM} (h : SB m μ) : zF Prod.snd (SB m) (fX12_seesWord μ) := by
  unfold fX12_seesWord
  exact (zF_bp (bX12_next  h) (fun x1 μ2 hμ2 => (zF_lm (SB_up hμ2 (Or.inr (by decide))) (fun μ3 hμ3 => (zF_lm (SB_up hμ3 (Or.inr (by decide))) (fun μ4 hμ4 => (zF_bv (fun x5 => (zF_ite (fun _ => (zF_some hμ4)) (fun _ => (zF_ite (fun _ => (zF_some hμ4)) (fun _ => (bX12_seesWord_l33  _ _ _ hμ4)))))))))))))
theorem bX12_isWord {m : gM} {a1 : Int32} {μ : gM} (h : SB m μ) : zF Prod.snd (SB m) (fX12_isWord a1 μ) := by
  unfold fX12_isWord
  exact (zF_bv (fun x1 => (zF_ite (fun _ => (zF_some h)) (fun _ => (zF_bp (bX12_seesWord  h) (fun x2 μ3 hμ3 => (zF_ite (fun _ => (zF_some hμ3)) (fun _ => (zF_ite (fun _ => (zF_some hμ3)) (fun _ => (zF_some hμ3)))))))))))
theorem bX12_statementHere {m : gM} {μ : gM} (h : SB m μ) : zF Prod.snd (SB m) (fX12_statementHere μ) := by
  unfold fX12_statementHere
  exact (zF_bp (bX12_isWord  h) (fun x1 μ2 hμ2 => (zF_ite (fun _ => (zF_bp (bX12_isWord  hμ2) (fun x3 μ4 hμ4 => (zF_ite (fun _ => (zF_bp (bX12_isWord  hμ4) (fun x5 μ6 hμ6 => (zF_ite (fun _ => (zF_bp (bX12_isWord  hμ6) (fun x7 μ8 hμ8 => (zF_ite (fun _ => (zF_bp (bX12_isWord  hμ8) (fun x9 μ10 hμ10 => (zF_ite (fun _ => (zF_some hμ10)) (fun _ => (zF_some hμ10)))))) (fun _ => (zF_some hμ8)))))) (fun _ => (zF_some hμ6)))))) (fun _ => (zF_some hμ4)))))) (fun _ => (zF_some hμ2)))))
theorem bX12_unlike {m : gM} {μ : gM} (h : SB m μ) : zF id (SB m) (fX12_unlike μ) := by
  unfold fX12_unlike
  exact (zF_bp (bX12_next  h) (fun x1 μ2 hμ2 => (zF_bm (bX12_fail  hμ2) (fun μ3 hμ3 => (zF_some hμ3)))))
theorem bX12_isOver {m : gM} {μ : gM} (h : SB m μ) : zF Prod.snd (SB m) (fX12_isOver μ) := by
  unfold fX12_isOver
  exact (zF_bp (bX12_next  h) (fun x1 μ2 hμ2 => (zF_ite (fun _ => (zF_some hμ2)) (fun _ => (zF_some hμ2)))))
theorem bX12_takesSign {m : gM} {a1 : Int32} {μ : gM} (h : SB m μ) : zF Prod.snd (SB m) (fX12_takesSign a1 μ) := by
  unfold fX12_takesSign
  exact (zF_bv (fun x1 => (zF_ite (fun _ => (zF_some h)) (fun _ => (zF_bp (bX12_isOver  h) (fun x2 μ3 hμ3 => (zF_ite (fun _ => (zF_ck (zF_ite (fun _ => (zF_lm (SB_up hμ3 (Or.inr (by decide))) (fun μ5 hμ5 => (zF_some hμ5)))) (fun _ => (zF_some hμ3))))) (fun _ => (zF_some hμ3)))))))))
theorem bX12_needsSign {m : gM} {a1 : Int32} {μ : gM} (h : SB m μ) : zF id (SB m) (fX12_needsSign a1 μ) := by
  unfold fX12_needsSign
  exact (zF_bv (fun x1 => (zF_ite (fun _ => (zF_some h)) (fun _ => (zF_bp (bX12_takesSign  h) (fun x2 μ3 hμ3 => (zF_ite (fun _ => (zF_bm (bX12_unlike  hμ3) (fun μ4 hμ4 => (zF_some hμ4)))) (fun _ => (zF_some hμ3)))))))))
theorem bX12_statement_n58 {m : gM} {μ : gM} (h : SB m μ) : zF id (SB m) (fX12_statement_n58 μ) := by
  unfold fX12_statement_n58
  exact (zF_bm (bX12_needsSign  h) (fun μ4 hμ4 => (zF_some hμ4)))
theorem bX12_pass {m : gM} {μ : gM} (h : SB m μ) : zF id (SB m) (fX12_pass μ) := by
  unfold fX12_pass
  exact (zF_lm (SB_up h (Or.inr (by decide))) (fun μ1 hμ1 => (zF_lm (SB_up hμ1 (Or.inr (by decide))) (fun μ2 hμ2 => (zF_some hμ2)))))
theorem bX12_isName {m : gM} {μ : gM} (h : SB m μ) : zF Prod.snd (SB m) (fX12_isName μ) := by
  unfold fX12_isName
  exact (zF_bv (fun x1 => (zF_ite (fun _ => (zF_some h)) (fun _ => (zF_bp (bX12_seesWord  h) (fun x2 μ3 hμ3 => (zF_ite (fun _ => (zF_some hμ3)) (fun _ => (zF_bv (fun x4 => (zF_ite (fun _ => (zF_some hμ3)) (fun _ => (zF_some hμ3)))))))))))))
theorem bX12_newRead_n101 {m : gM} {y1 y2 : Int32} {μ : gM} (h : SB m μ) : zF Prod.snd (SB m) (fX12_newRead_n101 y1 y2 μ) := by
  unfold fX12_newRead_n101
  exact (zF_bv (fun x10 => (zF_ite (fun _ => (zF_some h)) (fun _ => (zF_ck (zF_lm (SB_up h (Or.inl (by decide))) (fun μ12 hμ12 => (zF_bm (bX12_pass  hμ12) (fun μ13 hμ13 => (zF_some hμ13))))))))))
theorem bX12_newRead_l59 {m : gM} : ∀ (n : Nat) (y1 y2 y3 y4 : Int32) (μ : gM), SB m μ → zF Prod.snd (SB m) (fX12_newRead_l59  n y1 y2 y3 y4 μ) := by
  intro n
  induction n with
  | zero => intro _ _ _ _ μ _; exact zF_none
  | succ n ih =>
    intro y1 y2 y3 y4 μ h
    rw [fX12_newRead_l59]
    exact (zF_ite (fun _ => (bX12_newRead_n101  h)) (fun _ => (zF_bv (fun x15 => (zF_ite (fun _ => (bX12_newRead_n101  h)) (fun _ => (zF_bv (fun x16 => (zF_ite (fun _ => (zF_lv (fun x17 => (ih _ _ _ _ _ h)))) (fun _ => (zF_bm (bX12_fail  h) (fun μ18 hμ18 => (zF_lv (fun x19 => (ih _ _ _ _ _ hμ18)))))))))))))))
theorem bX12_newRead_n27 {m : gM} {y1 y2 : Int32} {μ : gM} (h : SB m μ) : zF Prod.snd (SB m) (fX12_newRead_n27 y1 y2 μ) := by
  unfold fX12_newRead_n27
  exact (zF_bv (fun x4 => (zF_ite (fun _ => (zF_some h)) (fun _ => (zF_bm (bX12_pass  h) (fun μ5 hμ5 => (zF_bp (bX12_next  hμ5) (fun x6 μ7 hμ7 => (zF_bp (bX12_isName  hμ7) (fun x8 μ9 hμ9 => (zF_ite (fun _ => (zF_bm (bX12_unlike  hμ9) (fun μ23 hμ23 => (bX12_newRead_l59  _ _ _ _ _ _ hμ23)))) (fun _ => (bX12_newRead_l59  _ _ _ _ _ _ hμ9)))))))))))))
theorem bX12_newRead {m : gM} {a1 : Int32} {μ : gM} (h : SB m μ) : zF Prod.snd (SB m) (fX12_newRead a1 μ) := by
  unfold fX12_newRead
  exact (zF_ck (zF_lv (fun x2 => (zF_bv (fun x3 => (zF_ite (fun _ => (zF_bp (bX12_next  h) (fun x26 μ27 hμ27 => (zF_bm (bX12_fail  hμ27) (fun μ28 hμ28 => (bX12_newRead_n27  hμ28)))))) (fun _ => (bX12_newRead_n27  h))))))))
theorem bX12_takes {m : gM} {a1 : Int32} {μ : gM} (h : SB m μ) : zF Prod.snd (SB m) (fX12_takes a1 μ) := by
  unfold fX12_takes
  exact (zF_bp (bX12_isWord  h) (fun x1 μ2 hμ2 => (zF_ite (fun _ => (zF_some hμ2)) (fun _ => (zF_bm (bX12_pass  hμ2) (fun μ3 hμ3 => (zF_some hμ3)))))))
theorem bX12_asks {m : gM} {a1 : Int32} {μ : gM} (h : SB m μ) : zF id (SB m) (fX12_asks a1 μ) := by
  unfold fX12_asks
  exact (zF_bv (fun x1 => (zF_ite (fun _ => (zF_some h)) (fun _ => (zF_bp (bX12_takes  h) (fun x2 μ3 hμ3 => (zF_ite (fun _ => (zF_bm (bX12_unlike  hμ3) (fun μ4 hμ4 => (zF_some hμ4)))) (fun _ => (zF_some hμ3)))))))))
theorem bX12_number_l75 {m : gM} : ∀ (n : Nat) (y1 y2 y3 y4 y5 y6 : Int32) (μ : gM), SB m μ → zF Prod.snd (SB m) (fX12_number_l75  n y1 y2 y3 y4 y5 y6 μ) := by
  intro n
  induction n with
  | zero => intro _ _ _ _ _ _ μ _; exact zF_none
  | succ n ih =>
    intro y1 y2 y3 y4 y5 y6 μ h
    rw [fX12_number_l75]
    exact (zF_ite (fun _ => (zF_lm (SB_up h (Or.inr (by decide))) (fun μ7 hμ7 => (zF_lm (SB_up hμ7 (Or.inr (by decide))) (fun μ8 hμ8 => (zF_bv (fun x9 => (zF_ite (fun _ => (zF_bm (bX12_fail  hμ8) (fun μ10 hμ10 => (zF_some hμ10)))) (fun _ => (zF_some hμ8)))))))))) (fun _ => (zF_ck (zF_lv (fun x13 => (zF_lv (fun x14 => (ih _ _ _ _ _ _ _ h))))))))
theorem bX12_number_n60 {m : gM} {y1 y2 y3 y4 : Int32} {μ : gM} (h : SB m μ) : zF Prod.snd (SB m) (fX12_number_n60 y1 y2 y3 y4 μ) := by
  unfold fX12_number_n60
  exact (zF_bv (fun x6 => (zF_ite (fun _ => (zF_some h)) (fun _ => (bX12_number_l75  _ _ _ _ _ _ _ _ h)))))
theorem bX12_number_n56 {m : gM} {y1 y2 y3 y4 : Int32} {μ : gM} (h : SB m μ) : zF Prod.snd (SB m) (fX12_number_n56 y1 y2 y3 y4 μ) := by
  unfold fX12_number_n56
  exact (zF_bm (bX12_unlike  h) (fun μ17 hμ17 => (bX12_number_n60  hμ17)))
theorem bX12_number_l13 {m : gM} : ∀ (n : Nat) (y1 y2 y3 y4 : Int32) (μ : gM), SB m μ → zF Prod.snd (SB m) (fX12_number_l13  n y1 y2 y3 y4 μ) := by
  intro n
  induction n with
  | zero => intro _ _ _ _ μ _; exact zF_none
  | succ n ih =>
    intro y1 y2 y3 y4 μ h
    rw [fX12_number_l13]
    exact (zF_bv (fun x4 => (zF_ite (fun _ => (zF_bv (fun x5 => (zF_ite (fun _ => (bX12_number_n60  h)) (fun _ => (zF_ite (fun _ => (bX12_number_n56  h)) (fun _ => (zF_ite (fun _ => (bX12_number_n56  h)) (fun _ => (zF_ite (fun _ => (bX12_number_n56  h)) (fun _ => (bX12_number_n60  h)))))))))))) (fun _ => (zF_lv (fun x22 => (ih _ _ _ _ _ h)))))))
theorem bX12_number {m : gM} {a1 a2 : Int32} {μ : gM} (h : SB m μ) : zF Prod.snd (SB m) (fX12_number a1 a2 μ) := by
  unfold fX12_number
  exact (zF_bp (bX12_next  h) (fun x1 μ2 hμ2 => (zF_lm (SB_up hμ2 (Or.inr (by decide))) (fun μ3 hμ3 => (bX12_number_l13  _ _ _ _ _ _ hμ3)))))
theorem bX12_groupRead_n73 {m : gM} {y1 y2 y3 y4 z0 : Int32} {μ : gM} (h : SB m μ) : zF id (SB m) (fX12_groupRead_n73 y1 y2 y3 y4 z0 μ) := by
  unfold fX12_groupRead_n73
  exact (zF_bv (fun x12 => (zF_ite (fun _ => (zF_some h)) (fun _ => (zF_ck (zF_lm (SB_up h (Or.inl (by decide))) (fun μ14 hμ14 => (zF_ck (zF_lm (SB_up hμ14 (Or.inl (by decide))) (fun μ16 hμ16 => (zF_bv (fun x17 => (zF_ck (zF_lm (SB_up hμ16 (Or.inl (by decide))) (fun μ19 hμ19 => (zF_ck (zF_lm (SB_up hμ19 (Or.inl (by decide))) (fun μ21 hμ21 => (zF_lm (SB_up hμ21 (Or.inl (by decide))) (fun μ22 hμ22 => (zF_some hμ22)))))))))))))))))))))
theorem bX12_groupRead_n53 {m : gM} {y1 y2 y3 y4 : Int32} {μ : gM} (h : SB m μ) : zF id (SB m) (fX12_groupRead_n53 y1 y2 y3 y4 μ) := by
  unfold fX12_groupRead_n53
  exact (zF_bp (bX12_takes  h) (fun x10 μ11 hμ11 => (zF_ite (fun _ => (bX12_groupRead_n73  hμ11)) (fun _ => (zF_bp (bX12_number  hμ11) (fun x24 μ25 hμ25 => (bX12_groupRead_n73  hμ25)))))))
theorem bX12_groupRead {m : gM} {μ : gM} (h : SB m μ) : zF id (SB m) (fX12_groupRead μ) := by
  unfold fX12_groupRead
  exact (zF_bp (bX12_newRead  h) (fun x1 μ2 hμ2 => (zF_bm (bX12_asks  hμ2) (fun μ3 hμ3 => (zF_bp (bX12_number  hμ3) (fun x4 μ5 hμ5 => (zF_bp (bX12_takes  hμ5) (fun x6 μ7 hμ7 => (zF_ite (fun _ => (zF_bp (bX12_takes  hμ7) (fun x8 μ9 hμ9 => (bX12_groupRead_n53  hμ9)))) (fun _ => (zF_bp (bX12_number  hμ7) (fun x27 μ28 hμ28 => (bX12_groupRead_n53  hμ28)))))))))))))
theorem bX12_oneRead_n26 {m : gM} {p1 : Nat} {y2 : Int32} {μ : gM} (h : SB m μ) : zF Prod.snd (SB m) (fX12_oneRead_n26 p1 y2 μ) := by
  unfold fX12_oneRead_n26
  exact (zF_bv (fun x5 => (zF_ite (fun _ => (zF_some h)) (fun _ => (zF_bv (fun x6 => (zF_ite (fun _ => (zF_bm (bX12_fail  h) (fun μ8 hμ8 => (zF_some hμ8)))) (fun _ => (zF_bm (bX12_pass  h) (fun μ7 hμ7 => (zF_some hμ7)))))))))))
theorem bX12_oneRead {m : gM} {p1 : Nat} {a2 : Int32} {μ : gM} (h : SB m μ) : zF Prod.snd (SB m) (fX12_oneRead p1 a2 μ) := by
  unfold fX12_oneRead
  exact (zF_bp (bX12_next  h) (fun x1 μ2 hμ2 => (zF_lm (SB_up hμ2 (Or.inr (by decide))) (fun μ3 hμ3 => (zF_bv (fun x4 => (zF_ite (fun _ => (bX12_oneRead_n26  hμ3)) (fun _ => (zF_bp (bX12_isName  hμ3) (fun x11 μ12 hμ12 => (zF_ite (fun _ => (zF_bm (bX12_unlike  hμ12) (fun μ13 hμ13 => (bX12_oneRead_n26  hμ13)))) (fun _ => (bX12_oneRead_n26  hμ12)))))))))))))
theorem bX12_memberRead_n101 {m : gM} {y1 y3 y4 z0 : Int32} {μ : gM} (h : SB m μ) : zF id (SB m) (fX12_memberRead_n101 y1 y3 y4 z0 μ) := by
  unfold fX12_memberRead_n101
  exact (zF_bv (fun x14 => (zF_ite (fun _ => (zF_some h)) (fun _ => (zF_lv (fun x15 => (zF_ck (zF_ck (zF_lm (SB_up h (Or.inl (by decide))) (fun μ18 hμ18 => (zF_bv (fun x19 => (zF_ck (zF_lm (SB_up hμ18 (Or.inl (by decide))) (fun μ21 hμ21 => (zF_bv (fun x22 => (zF_ck (zF_lm (SB_up hμ21 (Or.inl (by decide))) (fun μ24 hμ24 => (zF_some hμ24)))))))))))))))))))))
theorem bX12_memberRead_n65 {m : gM} {y1 y3 : Int32} {μ : gM} (h : SB m μ) : zF id (SB m) (fX12_memberRead_n65 y1 y3 μ) := by
  unfold fX12_memberRead_n65
  exact (zF_bm (bX12_asks  h) (fun μ9 hμ9 => (zF_bp (bX12_number  hμ9) (fun x10 μ11 hμ11 => (zF_bp (bX12_takes  hμ11) (fun x12 μ13 hμ13 => (zF_ite (fun _ => (bX12_memberRead_n101  hμ13)) (fun _ => (zF_bp (bX12_number  hμ13) (fun x26 μ27 hμ27 => (bX12_memberRead_n101  hμ27)))))))))))
theorem bX12_memberRead {m : gM} {μ : gM} (h : SB m μ) : zF id (SB m) (fX12_memberRead μ) := by
  unfold fX12_memberRead
  exact (zF_bm (bX12_pass  h) (fun μ1 hμ1 => (zF_bp (bX12_oneRead  hμ1) (fun x2 μ3 hμ3 => (zF_lv (fun x4 => (zF_bm (bX12_asks  hμ3) (fun μ5 hμ5 => (zF_bp (bX12_oneRead  hμ5) (fun x6 μ7 hμ7 => (zF_bv (fun x8 => (zF_ite (fun _ => (bX12_memberRead_n65  hμ7)) (fun _ => (zF_ck (zF_bv (fun x30 => (zF_ite (fun _ => (bX12_memberRead_n65  hμ7)) (fun _ => (zF_bm (bX12_fail  hμ7) (fun μ31 hμ31 => (bX12_memberRead_n65  hμ31))))))))))))))))))))))
theorem bX12_trackRead_n138 {m : gM} {y1 y2 y3 y4 : Int32} {μ : gM} (h : SB m μ) : zF id (SB m) (fX12_trackRead_n138 y1 y2 y3 y4 μ) := by
  unfold fX12_trackRead_n138
  exact (zF_bm (bX12_asks  h) (fun μ14 hμ14 => (zF_bp (bX12_number  hμ14) (fun x15 μ16 hμ16 => (zF_bv (fun x17 => (zF_ite (fun _ => (zF_some hμ16)) (fun _ => (zF_ck (zF_lm (SB_up hμ16 (Or.inl (by decide))) (fun μ19 hμ19 => (zF_ck (zF_lm (SB_up hμ19 (Or.inl (by decide))) (fun μ21 hμ21 => (zF_ck (zF_lm (SB_up hμ21 (Or.inl (by decide))) (fun μ23 hμ23 => (zF_ck (zF_lm (SB_up hμ23 (Or.inl (by decide))) (fun μ25 hμ25 => (zF_lm (SB_up hμ25 (Or.inl (by decide))) (fun μ26 hμ26 => (zF_some hμ26)))))))))))))))))))))))
theorem bX12_trackRead_n94 {m : gM} {y1 y2 y3 : Int32} {μ : gM} (h : SB m μ) : zF id (SB m) (fX12_trackRead_n94 y1 y2 y3 μ) := by
  unfold fX12_trackRead_n94
  exact (zF_bm (bX12_asks  h) (fun μ10 hμ10 => (zF_bp (bX12_oneRead  hμ10) (fun x11 μ12 hμ12 => (zF_bv (fun x13 => (zF_ite (fun _ => (bX12_trackRead_n138  hμ12)) (fun _ => (zF_bv (fun x28 => (zF_ite (fun _ => (bX12_trackRead_n138  hμ12)) (fun _ => (zF_bm (bX12_fail  hμ12) (fun μ29 hμ29 => (bX12_trackRead_n138  hμ29)))))))))))))))
theorem bX12_trackRead_n23 {m : gM} {y1 : Int32} {μ : gM} (h : SB m μ) : zF id (SB m) (fX12_trackRead_n23 y1 μ) := by
  unfold fX12_trackRead_n23
  exact (zF_bv (fun x2 => (zF_ite (fun _ => (zF_some h)) (fun _ => (zF_bm (bX12_pass  h) (fun μ3 hμ3 => (zF_bp (bX12_oneRead  hμ3) (fun x4 μ5 hμ5 => (zF_bm (bX12_asks  hμ5) (fun μ6 hμ6 => (zF_bp (bX12_oneRead  hμ6) (fun x7 μ8 hμ8 => (zF_bv (fun x9 => (zF_ite (fun _ => (bX12_trackRead_n94  hμ8)) (fun _ => (zF_ck (zF_bv (fun x33 => (zF_ite (fun _ => (zF_bm (bX12_fail  hμ8) (fun μ34 hμ34 => (bX12_trackRead_n94  hμ34)))) (fun _ => (bX12_trackRead_n94  hμ8))))))))))))))))))))))
theorem bX12_trackRead {m : gM} {μ : gM} (h : SB m μ) : zF id (SB m) (fX12_trackRead μ) := by
  unfold fX12_trackRead
  exact (zF_lv (fun x1 => (zF_ite (fun _ => (zF_bp (bX12_next  h) (fun x38 μ39 hμ39 => (zF_bm (bX12_fail  hμ39) (fun μ40 hμ40 => (bX12_trackRead_n23  hμ40)))))) (fun _ => (bX12_trackRead_n23  h)))))
theorem bX12_namesRead {m : gM} {a1 : Int32} {μ : gM} (h : SB m μ) : zF id (SB m) (fX12_namesRead a1 μ) := by
  unfold fX12_namesRead
  exact (zF_bp (bX12_newRead  h) (fun x1 μ2 hμ2 => (zF_bv (fun x3 => (zF_ite (fun _ => (zF_some hμ2)) (fun _ => (zF_lv (fun x4 => (zF_ck (zF_ck (zF_lm (SB_up hμ2 (Or.inl (by decide))) (fun μ7 hμ7 => (zF_some hμ7)))))))))))))
theorem bX12_statement {m : gM} {μ : gM} (h : SB m μ) : zF id (SB m) (fX12_statement μ) := by
  unfold fX12_statement
  exact (zF_bp (bX12_statementHere  h) (fun x1 μ2 hμ2 => (zF_ite (fun _ => (zF_bm (bX12_unlike  hμ2) (fun μ11 hμ11 => (bX12_statement_n58  hμ11)))) (fun _ => (zF_ite (fun _ => (zF_bm (bX12_groupRead  hμ2) (fun μ9 hμ9 => (bX12_statement_n58  hμ9)))) (fun _ => (zF_ite (fun _ => (zF_ite (fun _ => (zF_bm (bX12_memberRead  hμ2) (fun μ5 hμ5 => (bX12_statement_n58  hμ5)))) (fun _ => (zF_bm (bX12_trackRead  hμ2) (fun μ3 hμ3 => (bX12_statement_n58  hμ3)))))) (fun _ => (zF_bm (bX12_namesRead  hμ2) (fun μ7 hμ7 => (bX12_statement_n58  hμ7)))))))))))
theorem bX12_eventRead_n284 {m : gM} {μ : gM} (h : SB m μ) : zF id (SB m) (fX12_eventRead_n284 μ) := by
  unfold fX12_eventRead_n284
  exact (zF_bm (bX12_needsSign  h) (fun μ24 hμ24 => (zF_some hμ24)))
theorem bX12_laysEvent {m : gM} {a1 a2 a3 a4 a5 : Int32} {μ : gM} (h : SB m μ) : zF id (SB m) (fX12_laysEvent a1 a2 a3 a4 a5 μ) := by
  unfold fX12_laysEvent
  exact (zF_bv (fun x1 => (zF_ite (fun _ => (zF_some h)) (fun _ => (zF_ck (zF_lm (SB_up h (Or.inl (by decide))) (fun μ3 hμ3 => (zF_ck (zF_lm (SB_up hμ3 (Or.inl (by decide))) (fun μ5 hμ5 => (zF_ck (zF_lm (SB_up hμ5 (Or.inl (by decide))) (fun μ7 hμ7 => (zF_ck (zF_lm (SB_up hμ7 (Or.inl (by decide))) (fun μ9 hμ9 => (zF_some hμ9)))))))))))))))))
theorem bX12_wordRead_n59 {m : gM} {y1 y2 y3 : Int32} {μ : gM} (h : SB m μ) : zF id (SB m) (fX12_wordRead_n59 y1 y2 y3 μ) := by
  unfold fX12_wordRead_n59
  exact (zF_bp (bX12_number  h) (fun x7 μ8 hμ8 => (zF_bm (bX12_laysEvent  hμ8) (fun μ9 hμ9 => (zF_some hμ9)))))
theorem bX12_wordRead {m : gM} {a1 : Int32} {μ : gM} (h : SB m μ) : zF id (SB m) (fX12_wordRead a1 μ) := by
  unfold fX12_wordRead
  exact (zF_bp (bX12_oneRead  h) (fun x1 μ2 hμ2 => (zF_bm (bX12_asks  hμ2) (fun μ3 hμ3 => (zF_bp (bX12_oneRead  hμ3) (fun x4 μ5 hμ5 => (zF_bv (fun x6 => (zF_ite (fun _ => (bX12_wordRead_n59  hμ5)) (fun _ => (zF_ck (zF_bv (fun x11 => (zF_ite (fun _ => (zF_bm (bX12_fail  hμ5) (fun μ12 hμ12 => (bX12_wordRead_n59  hμ12)))) (fun _ => (bX12_wordRead_n59  hμ5))))))))))))))))
theorem bX12_splitRead_n88 {m : gM} {y1 y2 : Int32} {μ : gM} (h : SB m μ) : zF id (SB m) (fX12_splitRead_n88 y1 y2 μ) := by
  unfold fX12_splitRead_n88
  exact (zF_bm (bX12_laysEvent  h) (fun μ2 hμ2 => (zF_some hμ2)))
theorem bX12_splitRead_n65 {m : gM} {k4 : Int32 → Int32 → Int32 → gM → Option gM} (hk4 : ∀ (u0 u1 u2 : Int32) (ν : gM), SB m ν → zF id (SB m) (k4 u0 u1 u2 ν)) {y1 y2 : Int32} {μ : gM} (h : SB m μ) : zF id (SB m) (fX12_splitRead_n65 k4 y1 y2 μ) := by
  unfold fX12_splitRead_n65
  exact (zF_bv (fun x7 => (zF_ite (fun _ => (hk4 _ _ _ _ h)) (fun _ => (zF_bp (bX12_isName  h) (fun x8 μ9 hμ9 => (zF_ite (fun _ => (hk4 _ _ _ _ hμ9)) (fun _ => (hk4 _ _ _ _ hμ9)))))))))
theorem bX12_splitRead_n51 {m : gM} {k4 : Int32 → Int32 → Int32 → gM → Option gM} (hk4 : ∀ (u0 u1 u2 : Int32) (ν : gM), SB m ν → zF id (SB m) (k4 u0 u1 u2 ν)) {y1 y2 y4 : Int32} {μ : gM} (h : SB m μ) : zF id (SB m) (fX12_splitRead_n51 k4 y1 y2 y4 μ) := by
  unfold fX12_splitRead_n51
  exact (zF_bv (fun x6 => (zF_ite (fun _ => (bX12_splitRead_n65 hk4 h)) (fun _ => (zF_lv (fun x12 => (bX12_splitRead_n65 hk4 h)))))))
theorem bX12_splitRead_l4 {m : gM} : ∀ (n : Nat) (y1 y2 y3 : Int32) (μ : gM), SB m μ → zF id (SB m) (fX12_splitRead_l4  n y1 y2 y3 μ) := by
  intro n
  induction n with
  | zero => intro _ _ _ μ _; exact zF_none
  | succ n ih =>
    intro y1 y2 y3 μ h
    rw [fX12_splitRead_l4]
    exact (zF_bv (fun x1 => (zF_ite (fun _ => (bX12_splitRead_n88  h)) (fun _ => (zF_ite (fun _ => (bX12_splitRead_n88  h)) (fun _ => (zF_bp (bX12_oneRead  h) (fun x3 μ4 hμ4 => (zF_bv (fun x5 => (zF_ite (fun _ => (bX12_splitRead_n51 ih hμ4)) (fun _ => (zF_bv (fun x14 => (zF_ite (fun _ => (bX12_splitRead_n51 ih hμ4)) (fun _ => (zF_bm (bX12_fail  hμ4) (fun μ15 hμ15 => (bX12_splitRead_n51 ih hμ15)))))))))))))))))))
theorem bX12_splitRead {m : gM} {a1 : Int32} {μ : gM} (h : SB m μ) : zF id (SB m) (fX12_splitRead a1 μ) := by
  unfold fX12_splitRead
  exact (bX12_splitRead_l4  _ _ _ _ _ h)
theorem bX12_eventRead_n100 {m : gM} {y1 : Int32} {μ : gM} (h : SB m μ) : zF id (SB m) (fX12_eventRead_n100 y1 μ) := by
  unfold fX12_eventRead_n100
  exact (zF_bp (bX12_takes  h) (fun x9 μ10 hμ10 => (zF_ite (fun _ => (zF_bp (bX12_takes  hμ10) (fun x11 μ12 hμ12 => (zF_ite (fun _ => (zF_bp (bX12_takes  hμ12) (fun x13 μ14 hμ14 => (zF_ite (fun _ => (zF_bp (bX12_takes  hμ14) (fun x15 μ16 hμ16 => (zF_ite (fun _ => (zF_bp (bX12_takes  hμ16) (fun x17 μ18 hμ18 => (zF_ite (fun _ => (zF_bp (bX12_takes  hμ18) (fun x19 μ20 hμ20 => (zF_ite (fun _ => (zF_bp (bX12_takes  hμ20) (fun x21 μ22 hμ22 => (zF_ite (fun _ => (zF_bv (fun x23 => (zF_ite (fun _ => (bX12_eventRead_n284  hμ22)) (fun _ => (zF_bm (bX12_unlike  hμ22) (fun μ25 hμ25 => (bX12_eventRead_n284  hμ25)))))))) (fun _ => (zF_bm (bX12_wordRead  hμ22) (fun μ27 hμ27 => (bX12_eventRead_n284  hμ27)))))))) (fun _ => (zF_bm (bX12_laysEvent  hμ20) (fun μ29 hμ29 => (bX12_eventRead_n284  hμ29)))))))) (fun _ => (zF_bm (bX12_splitRead  hμ18) (fun μ31 hμ31 => (bX12_eventRead_n284  hμ31)))))))) (fun _ => (zF_bp (bX12_oneRead  hμ16) (fun x33 μ34 hμ34 => (zF_bm (bX12_laysEvent  hμ34) (fun μ35 hμ35 => (bX12_eventRead_n284  hμ35)))))))))) (fun _ => (zF_bp (bX12_oneRead  hμ14) (fun x37 μ38 hμ38 => (zF_bm (bX12_laysEvent  hμ38) (fun μ39 hμ39 => (bX12_eventRead_n284  hμ39)))))))))) (fun _ => (zF_bp (bX12_oneRead  hμ12) (fun x41 μ42 hμ42 => (zF_bm (bX12_laysEvent  hμ42) (fun μ43 hμ43 => (bX12_eventRead_n284  hμ43)))))))))) (fun _ => (zF_bp (bX12_oneRead  hμ10) (fun x45 μ46 hμ46 => (zF_bm (bX12_laysEvent  hμ46) (fun μ47 hμ47 => (bX12_eventRead_n284  hμ47)))))))))
theorem bX12_eventRead_n84 {m : gM} {y1 y2 : Int32} {μ : gM} (h : SB m μ) : zF id (SB m) (fX12_eventRead_n84 y1 y2 μ) := by
  unfold fX12_eventRead_n84
  exact (zF_bv (fun x8 => (zF_ite (fun _ => (bX12_eventRead_n100  h)) (fun _ => (zF_ck (zF_lm (SB_up h (Or.inl (by decide))) (fun μ50 hμ50 => (bX12_eventRead_n100  hμ50))))))))
theorem bX12_eventRead_n29 {m : gM} {y1 : Int32} {μ : gM} (h : SB m μ) : zF id (SB m) (fX12_eventRead_n29 y1 μ) := by
  unfold fX12_eventRead_n29
  exact (zF_bv (fun x3 => (zF_ite (fun _ => (zF_some h)) (fun _ => (zF_bm (bX12_pass  h) (fun μ4 hμ4 => (zF_bp (bX12_number  hμ4) (fun x5 μ6 hμ6 => (zF_bv (fun x7 => (zF_ite (fun _ => (bX12_eventRead_n84  hμ6)) (fun _ => (zF_ite (fun _ => (bX12_eventRead_n84  hμ6)) (fun _ => (zF_ck (zF_ite (fun _ => (bX12_eventRead_n84  hμ6)) (fun _ => (zF_bm (bX12_fail  hμ6) (fun μ53 hμ53 => (bX12_eventRead_n84  hμ53))))))))))))))))))))
theorem bX12_eventRead_n13 {m : gM} {y1 : Int32} {μ : gM} (h : SB m μ) : zF id (SB m) (fX12_eventRead_n13 y1 μ) := by
  unfold fX12_eventRead_n13
  exact (zF_ite (fun _ => (zF_bp (bX12_next  h) (fun x58 μ59 hμ59 => (zF_bm (bX12_fail  hμ59) (fun μ60 hμ60 => (bX12_eventRead_n29  hμ60)))))) (fun _ => (bX12_eventRead_n29  h)))
theorem bX12_eventRead {m : gM} {a1 : Int32} {μ : gM} (h : SB m μ) : zF id (SB m) (fX12_eventRead a1 μ) := by
  unfold fX12_eventRead
  exact (zF_bp (bX12_isWord  h) (fun x1 μ2 hμ2 => (zF_ite (fun _ => (zF_bm (bX12_unlike  hμ2) (fun μ62 hμ62 => (bX12_eventRead_n13  hμ62)))) (fun _ => (bX12_eventRead_n13  hμ2)))))
/-! all but row 267 -/
def LX (m μ : gM) : Prop := ∀ a, a ≠ 267 → μ a = m a
theorem LX_up {m μ : gM} {c i : Nat} {v : Int32} (h : LX m μ) (hc : c = 267) : LX m (gUp μ c i v) := fun a ha => by
  subst hc
  rw [zUp_ne _ ha]
  exact h a ha
theorem lX12_next_n39 {m : gM} {k0 : gM → Option (Int32 × gM)} (hk0 : ∀ (ν : gM), LX m ν → zF Prod.snd (LX m) (k0  ν)) {μ : gM} (h : LX m μ) : zF Prod.snd (LX m) (fX12_next_n39 k0 μ) := by
  unfold fX12_next_n39
  exact (zF_lm (LX_up h (by decide)) (fun μ2 hμ2 => (hk0  _ hμ2)))
theorem lX12_next_l0 {m : gM} : ∀ (n : Nat) (μ : gM), LX m μ → zF Prod.snd (LX m) (fX12_next_l0  n  μ) := by
  intro n
  induction n with
  | zero => intro  μ _; exact zF_none
  | succ n ih =>
    intro  μ h
    rw [fX12_next_l0]
    exact (zF_ite (fun _ => (zF_some h)) (fun _ => (zF_ck (zF_ite (fun _ => (lX12_next_n39 ih h)) (fun _ => (zF_ck (zF_ite (fun _ => (lX12_next_n39 ih h)) (fun _ => (zF_some h)))))))))
theorem lX12_next {m : gM} {μ : gM} (h : LX m μ) : zF Prod.snd (LX m) (fX12_next μ) := by
  unfold fX12_next
  exact (lX12_next_l0  _  _ h)
theorem lX12_isOver {m : gM} {μ : gM} (h : LX m μ) : zF Prod.snd (LX m) (fX12_isOver μ) := by
  unfold fX12_isOver
  exact (zF_bp (lX12_next  h) (fun x1 μ2 hμ2 => (zF_ite (fun _ => (zF_some hμ2)) (fun _ => (zF_some hμ2)))))
theorem lX12_fail {m : gM} {a1 a2 : Int32} {μ : gM} (h : LX m μ) : zF id (LX m) (fX12_fail a1 a2 μ) := by
  unfold fX12_fail
  exact (zF_ite (fun _ => (zF_lm (LX_up h (by decide)) (fun μ1 hμ1 => (zF_lm (LX_up hμ1 (by decide)) (fun μ2 hμ2 => (zF_some hμ2)))))) (fun _ => (zF_some h)))
theorem lX12_unlike {m : gM} {μ : gM} (h : LX m μ) : zF id (LX m) (fX12_unlike μ) := by
  unfold fX12_unlike
  exact (zF_bp (lX12_next  h) (fun x1 μ2 hμ2 => (zF_bm (lX12_fail  hμ2) (fun μ3 hμ3 => (zF_some hμ3)))))
theorem lX12_takesSign {m : gM} {a1 : Int32} {μ : gM} (h : LX m μ) : zF Prod.snd (LX m) (fX12_takesSign a1 μ) := by
  unfold fX12_takesSign
  exact (zF_bv (fun x1 => (zF_ite (fun _ => (zF_some h)) (fun _ => (zF_bp (lX12_isOver  h) (fun x2 μ3 hμ3 => (zF_ite (fun _ => (zF_ck (zF_ite (fun _ => (zF_lm (LX_up hμ3 (by decide)) (fun μ5 hμ5 => (zF_some hμ5)))) (fun _ => (zF_some hμ3))))) (fun _ => (zF_some hμ3)))))))))
theorem lX12_needsSign {m : gM} {a1 : Int32} {μ : gM} (h : LX m μ) : zF id (LX m) (fX12_needsSign a1 μ) := by
  unfold fX12_needsSign
  exact (zF_bv (fun x1 => (zF_ite (fun _ => (zF_some h)) (fun _ => (zF_bp (lX12_takesSign  h) (fun x2 μ3 hμ3 => (zF_ite (fun _ => (zF_bm (lX12_unlike  hμ3) (fun μ4 hμ4 => (zF_some hμ4)))) (fun _ => (zF_some hμ3)))))))))
theorem lX12_seesWord_n82 {m : gM} {k33 : Int32 → gM → Option (Int32 × gM)} (hk33 : ∀ (u0 : Int32) (ν : gM), LX m ν → zF Prod.snd (LX m) (k33 u0 ν)) {y1 z0 : Int32} {μ : gM} (h : LX m μ) : zF Prod.snd (LX m) (fX12_seesWord_n82 k33 y1 z0 μ) := by
  unfold fX12_seesWord_n82
  exact (zF_lm (LX_up h (by decide)) (fun μ8 hμ8 => (zF_lm (LX_up hμ8 (by decide)) (fun μ9 hμ9 => (hk33 _ _ hμ9)))))
theorem lX12_seesWord_l33 {m : gM} : ∀ (n : Nat) (y1 : Int32) (μ : gM), LX m μ → zF Prod.snd (LX m) (fX12_seesWord_l33  n y1 μ) := by
  intro n
  induction n with
  | zero => intro _ μ _; exact zF_none
  | succ n ih =>
    intro y1 μ h
    rw [fX12_seesWord_l33]
    exact (zF_bv (fun x6 => (zF_ite (fun _ => (zF_ite (fun _ => (zF_some h)) (fun _ => (zF_some h)))) (fun _ => (zF_ite (fun _ => (lX12_seesWord_n82 ih h)) (fun _ => (zF_ck (lX12_seesWord_n82 ih h))))))))
theorem lX12_seesWord {m : gM} {μ : gM} (h : LX m μ) : zF Prod.snd (LX m) (fX12_seesWord μ) := by
  unfold fX12_seesWord
  exact (zF_bp (lX12_next  h) (fun x1 μ2 hμ2 => (zF_lm (LX_up hμ2 (by decide)) (fun μ3 hμ3 => (zF_lm (LX_up hμ3 (by decide)) (fun μ4 hμ4 => (zF_bv (fun x5 => (zF_ite (fun _ => (zF_some hμ4)) (fun _ => (zF_ite (fun _ => (zF_some hμ4)) (fun _ => (lX12_seesWord_l33  _ _ _ hμ4)))))))))))))
theorem lX12_isWord {m : gM} {a1 : Int32} {μ : gM} (h : LX m μ) : zF Prod.snd (LX m) (fX12_isWord a1 μ) := by
  unfold fX12_isWord
  exact (zF_bv (fun x1 => (zF_ite (fun _ => (zF_some h)) (fun _ => (zF_bp (lX12_seesWord  h) (fun x2 μ3 hμ3 => (zF_ite (fun _ => (zF_some hμ3)) (fun _ => (zF_ite (fun _ => (zF_some hμ3)) (fun _ => (zF_some hμ3)))))))))))
theorem lX12_pass {m : gM} {μ : gM} (h : LX m μ) : zF id (LX m) (fX12_pass μ) := by
  unfold fX12_pass
  exact (zF_lm (LX_up h (by decide)) (fun μ1 hμ1 => (zF_lm (LX_up hμ1 (by decide)) (fun μ2 hμ2 => (zF_some hμ2)))))
theorem lX12_takes {m : gM} {a1 : Int32} {μ : gM} (h : LX m μ) : zF Prod.snd (LX m) (fX12_takes a1 μ) := by
  unfold fX12_takes
  exact (zF_bp (lX12_isWord  h) (fun x1 μ2 hμ2 => (zF_ite (fun _ => (zF_some hμ2)) (fun _ => (zF_bm (lX12_pass  hμ2) (fun μ3 hμ3 => (zF_some hμ3)))))))
theorem lX12_asks {m : gM} {a1 : Int32} {μ : gM} (h : LX m μ) : zF id (LX m) (fX12_asks a1 μ) := by
  unfold fX12_asks
  exact (zF_bv (fun x1 => (zF_ite (fun _ => (zF_some h)) (fun _ => (zF_bp (lX12_takes  h) (fun x2 μ3 hμ3 => (zF_ite (fun _ => (zF_bm (lX12_unlike  hμ3) (fun μ4 hμ4 => (zF_some hμ4)))) (fun _ => (zF_some hμ3)))))))))
theorem lX12_isName {m : gM} {μ : gM} (h : LX m μ) : zF Prod.snd (LX m) (fX12_isName μ) := by
  unfold fX12_isName
  exact (zF_bv (fun x1 => (zF_ite (fun _ => (zF_some h)) (fun _ => (zF_bp (lX12_seesWord  h) (fun x2 μ3 hμ3 => (zF_ite (fun _ => (zF_some hμ3)) (fun _ => (zF_bv (fun x4 => (zF_ite (fun _ => (zF_some hμ3)) (fun _ => (zF_some hμ3)))))))))))))
theorem lX12_number_l75 {m : gM} : ∀ (n : Nat) (y1 y2 y3 y4 y5 y6 : Int32) (μ : gM), LX m μ → zF Prod.snd (LX m) (fX12_number_l75  n y1 y2 y3 y4 y5 y6 μ) := by
  intro n
  induction n with
  | zero => intro _ _ _ _ _ _ μ _; exact zF_none
  | succ n ih =>
    intro y1 y2 y3 y4 y5 y6 μ h
    rw [fX12_number_l75]
    exact (zF_ite (fun _ => (zF_lm (LX_up h (by decide)) (fun μ7 hμ7 => (zF_lm (LX_up hμ7 (by decide)) (fun μ8 hμ8 => (zF_bv (fun x9 => (zF_ite (fun _ => (zF_bm (lX12_fail  hμ8) (fun μ10 hμ10 => (zF_some hμ10)))) (fun _ => (zF_some hμ8)))))))))) (fun _ => (zF_ck (zF_lv (fun x13 => (zF_lv (fun x14 => (ih _ _ _ _ _ _ _ h))))))))
theorem lX12_number_n60 {m : gM} {y1 y2 y3 y4 : Int32} {μ : gM} (h : LX m μ) : zF Prod.snd (LX m) (fX12_number_n60 y1 y2 y3 y4 μ) := by
  unfold fX12_number_n60
  exact (zF_bv (fun x6 => (zF_ite (fun _ => (zF_some h)) (fun _ => (lX12_number_l75  _ _ _ _ _ _ _ _ h)))))
theorem lX12_number_n56 {m : gM} {y1 y2 y3 y4 : Int32} {μ : gM} (h : LX m μ) : zF Prod.snd (LX m) (fX12_number_n56 y1 y2 y3 y4 μ) := by
  unfold fX12_number_n56
  exact (zF_bm (lX12_unlike  h) (fun μ17 hμ17 => (lX12_number_n60  hμ17)))
theorem lX12_number_l13 {m : gM} : ∀ (n : Nat) (y1 y2 y3 y4 : Int32) (μ : gM), LX m μ → zF Prod.snd (LX m) (fX12_number_l13  n y1 y2 y3 y4 μ) := by
  intro n
  induction n with
  | zero => intro _ _ _ _ μ _; exact zF_none
  | succ n ih =>
    intro y1 y2 y3 y4 μ h
    rw [fX12_number_l13]
    exact (zF_bv (fun x4 => (zF_ite (fun _ => (zF_bv (fun x5 => (zF_ite (fun _ => (lX12_number_n60  h)) (fun _ => (zF_ite (fun _ => (lX12_number_n56  h)) (fun _ => (zF_ite (fun _ => (lX12_number_n56  h)) (fun _ => (zF_ite (fun _ => (lX12_number_n56  h)) (fun _ => (lX12_number_n60  h)))))))))))) (fun _ => (zF_lv (fun x22 => (ih _ _ _ _ _ h)))))))
theorem lX12_number {m : gM} {a1 a2 : Int32} {μ : gM} (h : LX m μ) : zF Prod.snd (LX m) (fX12_number a1 a2 μ) := by
  unfold fX12_number
  exact (zF_bp (lX12_next  h) (fun x1 μ2 hμ2 => (zF_lm (LX_up hμ2 (by decide)) (fun μ3 hμ3 => (lX12_number_l13  _ _ _ _ _ _ hμ3)))))
theorem lX12_oneRead_n26 {m : gM} {p1 : Nat} {y2 : Int32} {μ : gM} (h : LX m μ) : zF Prod.snd (LX m) (fX12_oneRead_n26 p1 y2 μ) := by
  unfold fX12_oneRead_n26
  exact (zF_bv (fun x5 => (zF_ite (fun _ => (zF_some h)) (fun _ => (zF_bv (fun x6 => (zF_ite (fun _ => (zF_bm (lX12_fail  h) (fun μ8 hμ8 => (zF_some hμ8)))) (fun _ => (zF_bm (lX12_pass  h) (fun μ7 hμ7 => (zF_some hμ7)))))))))))
theorem lX12_oneRead {m : gM} {p1 : Nat} {a2 : Int32} {μ : gM} (h : LX m μ) : zF Prod.snd (LX m) (fX12_oneRead p1 a2 μ) := by
  unfold fX12_oneRead
  exact (zF_bp (lX12_next  h) (fun x1 μ2 hμ2 => (zF_lm (LX_up hμ2 (by decide)) (fun μ3 hμ3 => (zF_bv (fun x4 => (zF_ite (fun _ => (lX12_oneRead_n26  hμ3)) (fun _ => (zF_bp (lX12_isName  hμ3) (fun x11 μ12 hμ12 => (zF_ite (fun _ => (zF_bm (lX12_unlike  hμ12) (fun μ13 hμ13 => (lX12_oneRead_n26  hμ13)))) (fun _ => (lX12_oneRead_n26  hμ12)))))))))))))
theorem lX12_statementHere {m : gM} {μ : gM} (h : LX m μ) : zF Prod.snd (LX m) (fX12_statementHere μ) := by
  unfold fX12_statementHere
  exact (zF_bp (lX12_isWord  h) (fun x1 μ2 hμ2 => (zF_ite (fun _ => (zF_bp (lX12_isWord  hμ2) (fun x3 μ4 hμ4 => (zF_ite (fun _ => (zF_bp (lX12_isWord  hμ4) (fun x5 μ6 hμ6 => (zF_ite (fun _ => (zF_bp (lX12_isWord  hμ6) (fun x7 μ8 hμ8 => (zF_ite (fun _ => (zF_bp (lX12_isWord  hμ8) (fun x9 μ10 hμ10 => (zF_ite (fun _ => (zF_some hμ10)) (fun _ => (zF_some hμ10)))))) (fun _ => (zF_some hμ8)))))) (fun _ => (zF_some hμ6)))))) (fun _ => (zF_some hμ4)))))) (fun _ => (zF_some hμ2)))))
