/-! frames by inversion (written by gen_fr.py) -/
def zF {α : Type} (g : α → gM) (Q : gM → Prop) (x : Option α) : Prop := ∀ r, x = some r → Q (g r)
theorem zF_none {α : Type} {g : α → gM} {Q : gM → Prop} : zF g Q none := fun _ e => nomatch e
theorem zF_some {α : Type} {g : α → gM} {Q : gM → Prop} {r : α} (h : Q (g r)) : zF g Q (some r) := fun _ e => by
  obtain rfl := Option.some.inj e
  exact h
theorem zF_ite {α : Type} {g : α → gM} {Q : gM → Prop} {c : Prop} [Decidable c] {A B : Option α} (h1 : c → zF g Q A) (h2 : ¬ c → zF g Q B) : zF g Q (if c then A else B) := by
  by_cases h : c
  · rw [if_pos h]; exact h1 h
  · rw [if_neg h]; exact h2 h
theorem zF_ck {α : Type} {g : α → gM} {Q : gM → Prop} {b : Bool} {x : Option α} (h : zF g Q x) : zF g Q (zCk b x) := by
  unfold zCk
  exact zF_ite (fun _ => h) (fun _ => zF_none)
theorem zF_lv {α β : Type} {g : α → gM} {Q : gM → Prop} {v : β} {f : β → Option α} (k : ∀ x, zF g Q (f x)) : zF g Q (zLt v f) := by
  rw [zLt_eq]
  exact k v
theorem zF_lm {α : Type} {g : α → gM} {Q P : gM → Prop} {v : gM} {f : gM → Option α} (h : P v) (k : ∀ x, P x → zF g Q (f x)) : zF g Q (zLt v f) := by
  rw [zLt_eq]
  exact k v h
theorem zF_bv {α β : Type} {g : α → gM} {Q : gM → Prop} {x : Option β} {f : β → Option α} (k : ∀ v, zF g Q (f v)) : zF g Q (zBd x f) := by
  cases x with
  | none => exact zF_none
  | some v => exact k v
theorem zF_bm {α : Type} {g : α → gM} {Q P : gM → Prop} {x : Option gM} {f : gM → Option α} (h : zF id P x) (k : ∀ μ, P μ → zF g Q (f μ)) : zF g Q (zBd x f) := by
  cases x with
  | none => exact zF_none
  | some v => exact k v (h v rfl)
theorem zF_bp {α : Type} {g : α → gM} {Q P : gM → Prop} {x : Option (Int32 × gM)} {f : Int32 → gM → Option α} (h : zF Prod.snd P x) (k : ∀ v μ, P μ → zF g Q (f v μ)) : zF g Q (zBp x f) := by
  cases x with
  | none => exact zF_none
  | some v => exact k v.1 v.2 (h v rfl)
/-- the class's cells that paper and slots leave -/
def kc (m μ : gM) : Prop := ∀ a, a < 248 → μ a = m a
theorem kc_up {m μ : gM} {c i : Nat} {v : Int32} (h : kc m μ) (hc : 248 ≤ c) : kc m (gUp μ c i v) := fun a ha => by rw [zUp_ne _ (by omega)]; exact h a ha
theorem kc_cp {m μ : gM} {c : Nat} {f : Nat → Int32} (h : kc m μ) (hc : 248 ≤ c) : kc m (gCp μ c f) := fun a ha => by rw [zCp_ne _ (by omega)]; exact h a ha
/-- the reference's rows as they were; and while they lie on paper -/
def RB (m μ : gM) : Prop := (∀ i, i < 490 → μ 272 i = m 272 i) ∧ (∀ i, i < 6860 → μ 273 i = m 273 i) ∧ μ 274 = m 274 ∧ μ 267 20 = m 267 20
def PP (m μ : gM) : Prop := (∀ i, i < 490 → μ 273 (6860 + i) = m 272 i) ∧ (∀ i, i < 6860 → μ 273 i = m 273 i) ∧ μ 274 = m 274 ∧ μ 267 20 = m 267 20
theorem PP_up {m μ : gM} {c i : Nat} {v : Int32} (h : PP m μ) (h3 : c ≠ 273) (h4 : c ≠ 274) (h7 : c ≠ 267 ∨ i ≠ 20) : PP m (gUp μ c i v) := by
  refine ⟨fun j hj => by rw [zUp_ne _ (Ne.symm h3)]; exact h.1 j hj, fun j hj => by rw [zUp_ne _ (Ne.symm h3)]; exact h.2.1 j hj, by rw [zUp_ne _ (Ne.symm h4)]; exact h.2.2.1, ?_⟩
  rcases h7 with h7 | h7
  · rw [zUp_ne _ (Ne.symm h7)]; exact h.2.2.2
  · by_cases e : c = 267
    · subst e; rw [zUp_slot _ (Ne.symm h7)]; exact h.2.2.2
    · rw [zUp_ne _ (Ne.symm e)]; exact h.2.2.2
theorem RB_up {m μ : gM} {c i : Nat} {v : Int32} (h : RB m μ) (h2 : c ≠ 272) (h3 : c ≠ 273) (h4 : c ≠ 274) (h7 : c ≠ 267 ∨ i ≠ 20) : RB m (gUp μ c i v) := by
  refine ⟨fun j hj => by rw [zUp_ne _ (Ne.symm h2)]; exact h.1 j hj, fun j hj => by rw [zUp_ne _ (Ne.symm h3)]; exact h.2.1 j hj, by rw [zUp_ne _ (Ne.symm h4)]; exact h.2.2.1, ?_⟩
  rcases h7 with h7 | h7
  · rw [zUp_ne _ (Ne.symm h7)]; exact h.2.2.2
  · by_cases e : c = 267
    · subst e; rw [zUp_slot _ (Ne.symm h7)]; exact h.2.2.2
    · rw [zUp_ne _ (Ne.symm e)]; exact h.2.2.2
theorem c14 : (14 : Int32).toInt = ((14 : Nat) : Int) := rfl
theorem rX12_toPaper {m μ : gM} (h : RB m μ) : zF id (PP m) (fX12_toPaper μ) := by
  obtain ⟨ξ, e, f1, f2⟩ := sX12_putsTo (b := 14) (a1 := 14) (μ := μ) c14 (by decide)
  unfold fX12_toPaper
  rw [e, zBd_some]
  refine zF_some ⟨fun i hi => ?_, fun i hi => ?_, ?_, ?_⟩
  · show ξ 273 (6860 + i) = m 272 i
    rw [f2, if_pos (by omega), show 6860 + i - 490 * 14 = i by omega]; exact h.1 i hi
  · show ξ 273 i = m 273 i
    rw [f2, if_neg (by omega)]; exact h.2.1 i hi
  · show ξ 274 = m 274
    rw [f1 274 (by decide)]; exact h.2.2.1
  · show ξ 267 20 = m 267 20
    rw [f1 267 (by decide)]; exact h.2.2.2
theorem rX12_takesFrom {m μ : gM} (h : PP m μ) : zF id (PP m) (fX12_takesFrom 14 μ) := by
  obtain ⟨ξ, e, f1, f2⟩ := sX12_takesFrom (b := 14) (a1 := 14) (μ := μ) c14 (by decide)
  rw [e]
  refine zF_some ⟨fun i hi => ?_, fun i hi => ?_, ?_, ?_⟩
  · show ξ 273 (6860 + i) = m 272 i
    rw [f1 273 (by decide)]; exact h.1 i hi
  · show ξ 273 i = m 273 i
    rw [f1 273 (by decide)]; exact h.2.1 i hi
  · show ξ 274 = m 274
    rw [f1 274 (by decide)]; exact h.2.2.1
  · show ξ 267 20 = m 267 20
    rw [f1 267 (by decide)]; exact h.2.2.2
theorem rX12_fromPaper {m μ : gM} {a1 : Int32} (h : PP m μ) : zF Prod.snd (RB m) (fX12_fromPaper a1 μ) := by
  obtain ⟨ξ, e, f1, f2⟩ := sX12_takesFrom (b := 14) (a1 := 14) (μ := μ) c14 (by decide)
  unfold fX12_fromPaper
  rw [e, zBd_some]
  refine zF_some ⟨fun i hi => ?_, fun i hi => ?_, ?_, ?_⟩
  · show ξ 272 i = m 272 i
    rw [f2, if_pos (by omega)]; exact h.1 i hi
  · show ξ 273 i = m 273 i
    rw [f1 273 (by decide)]; exact h.2.1 i hi
  · show ξ 274 = m 274
    rw [f1 274 (by decide)]; exact h.2.2.1
  · show ξ 267 20 = m 267 20
    rw [f1 267 (by decide)]; exact h.2.2.2
theorem rX8_lay_n85 {m : gM} {k54 : Int32 → Int32 → Int32 → gM → Option gM} (hk54 : ∀ (u0 u1 u2 : Int32) (ν : gM), kc m ν → zF id (kc m) (k54 u0 u1 u2 ν)) {y1 y3 y4 z0 : Int32} {μ : gM} (h : kc m μ) : zF id (kc m) (fX8_lay_n85 k54 y1 y3 y4 z0 μ) := by
  unfold fX8_lay_n85
  exact (zF_ck (zF_lm (kc_up h (by omega)) (fun μ6 hμ6 => (zF_ite (fun _ => (zF_lv (fun x7 => (hk54 _ _ _ _ hμ6)))) (fun _ => (zF_ck (zF_ck (zF_lm (kc_up hμ6 (by omega)) (fun μ10 hμ10 => (zF_lv (fun x11 => (hk54 _ _ _ _ hμ10))))))))))))
theorem rX8_lay_l54 {m : gM} : ∀ (n : Nat) (y1 y3 y4 : Int32) (μ : gM), kc m μ → zF id (kc m) (fX8_lay_l54  n y1 y3 y4 μ) := by
  intro n
  induction n with
  | zero => intro _ _ _ μ _; exact zF_none
  | succ n ih =>
    intro y1 y3 y4 μ h
    rw [fX8_lay_l54]
    exact (zF_ite (fun _ => (zF_some h)) (fun _ => (zF_ck (zF_ite (fun _ => (rX8_lay_n85 ih h)) (fun _ => (zF_bv (fun x13 => (rX8_lay_n85 ih h))))))))
theorem rX8_lay_l30 {m : gM} : ∀ (n : Nat) (y1 y3 y4 : Int32) (μ : gM), kc m μ → zF id (kc m) (fX8_lay_l30  n y1 y3 y4 μ) := by
  intro n
  induction n with
  | zero => intro _ _ _ μ _; exact zF_none
  | succ n ih =>
    intro y1 y3 y4 μ h
    rw [fX8_lay_l30]
    exact (zF_ite (fun _ => (rX8_lay_l54  _ _ _ _ _ h)) (fun _ => (zF_ck (zF_lm (kc_up h (by omega)) (fun μ17 hμ17 => (zF_lv (fun x18 => (ih _ _ _ _ hμ17))))))))
theorem rX8_lay {m : gM} {a1 a2 : Int32} {μ : gM} (h : kc m μ) : zF id (kc m) (fX8_lay a1 a2 μ) := by
  unfold fX8_lay
  exact (zF_ck (zF_bv (fun x2 => (zF_lv (fun x3 => (rX8_lay_l30  _ _ _ _ _ h))))))
theorem rX11_slot {m : gM} {a1 a2 a3 : Int32} {μ : gM} (h : kc m μ) : zF Prod.snd (kc m) (fX11_slot a1 a2 a3 μ) := by
  unfold fX11_slot
  exact (zF_bv (fun x1 => (zF_ite (fun _ => (zF_some h)) (fun _ => (zF_ite (fun _ => (zF_some h)) (fun _ => (zF_ck (zF_ite (fun _ => (zF_bm (rX8_lay  h) (fun μ3 hμ3 => (zF_bv (fun x4 => (zF_some hμ3)))))) (fun _ => (zF_some h))))))))))
theorem rX12_laysSlots_l60 {m : gM} {k40 : Int32 → Int32 → Int32 → gM → Option gM} (hk40 : ∀ (u0 u1 u2 : Int32) (ν : gM), RB m ν → zF id (RB m) (k40 u0 u1 u2 ν)) : ∀ (n : Nat) (y1 y3 y4 y5 y6 : Int32) (μ : gM), RB m μ → zF id (RB m) (fX12_laysSlots_l60 k40 n y1 y3 y4 y5 y6 μ) := by
  intro n
  induction n with
  | zero => intro _ _ _ _ _ μ _; exact zF_none
  | succ n ih =>
    intro y1 y3 y4 y5 y6 μ h
    rw [fX12_laysSlots_l60]
    exact (zF_bv (fun x5 => (zF_ite (fun _ => (zF_ck (zF_lm (RB_up h (by decide) (by decide) (by decide) (Or.inl (by decide))) (fun μ7 hμ7 => (zF_ite (fun _ => (zF_lv (fun x8 => (hk40 _ _ _ _ hμ7)))) (fun _ => (zF_ck (zF_ck (zF_lm (RB_up hμ7 (by decide) (by decide) (by decide) (Or.inl (by decide))) (fun μ11 hμ11 => (zF_lv (fun x12 => (hk40 _ _ _ _ hμ11))))))))))))) (fun _ => (zF_bv (fun x14 => (zF_ite (fun _ => (zF_lv (fun x15 => (ih _ _ _ _ _ _ h)))) (fun _ => (zF_bv (fun x16 => (zF_ck (zF_ite (fun _ => (zF_lv (fun x29 => (ih _ _ _ _ _ _ h)))) (fun _ => (zF_ite (fun _ => (zF_lv (fun x18 => (ih _ _ _ _ _ _ h)))) (fun _ => (zF_bv (fun x19 => (zF_ck (zF_ck (zF_bv (fun x22 => (zF_ck (zF_ck (zF_ite (fun _ => (zF_lv (fun x25 => (ih _ _ _ _ _ _ h)))) (fun _ => (zF_lv (fun x26 => (ih _ _ _ _ _ _ h))))))))))))))))))))))))))))
theorem rX12_laysSlots_l40 {m : gM} : ∀ (n : Nat) (y1 y3 y4 : Int32) (μ : gM), RB m μ → zF id (RB m) (fX12_laysSlots_l40  n y1 y3 y4 μ) := by
  intro n
  induction n with
  | zero => intro _ _ _ μ _; exact zF_none
  | succ n ih =>
    intro y1 y3 y4 μ h
    rw [fX12_laysSlots_l40]
    exact (zF_ck (zF_ite (fun _ => (zF_some h)) (fun _ => (rX12_laysSlots_l60 ih _ _ _ _ _ _ _ h))))
theorem rX12_laysSlots_l16 {m : gM} : ∀ (n : Nat) (y1 y3 y4 : Int32) (μ : gM), RB m μ → zF id (RB m) (fX12_laysSlots_l16  n y1 y3 y4 μ) := by
  intro n
  induction n with
  | zero => intro _ _ _ μ _; exact zF_none
  | succ n ih =>
    intro y1 y3 y4 μ h
    rw [fX12_laysSlots_l16]
    exact (zF_ite (fun _ => (rX12_laysSlots_l40  _ _ _ _ _ h)) (fun _ => (zF_ck (zF_lm (RB_up h (by decide) (by decide) (by decide) (Or.inl (by decide))) (fun μ35 hμ35 => (zF_lv (fun x36 => (ih _ _ _ _ hμ35))))))))
theorem rX12_laysSlots {m : gM} {a1 a2 : Int32} {μ : gM} (h : RB m μ) : zF id (RB m) (fX12_laysSlots a1 a2 μ) := by
  unfold fX12_laysSlots
  exact (zF_bv (fun x1 => (zF_bv (fun x2 => (zF_lv (fun x3 => (rX12_laysSlots_l16  _ _ _ _ _ h)))))))
theorem rX12_slot {m : gM} {a1 a2 a3 : Int32} {μ : gM} (h : RB m μ) : zF Prod.snd (RB m) (fX12_slot a1 a2 a3 μ) := by
  unfold fX12_slot
  exact (zF_lm (RB_up h (by decide) (by decide) (by decide) (Or.inr (by decide))) (fun μ1 hμ1 => (zF_bv (fun x2 => (zF_ite (fun _ => (zF_some hμ1)) (fun _ => (zF_bv (fun x3 => (zF_ite (fun _ => (zF_some hμ1)) (fun _ => (zF_ck (zF_bv (fun x5 => (zF_ite (fun _ => (zF_some hμ1)) (fun _ => (zF_bm (rX12_laysSlots  hμ1) (fun μ6 hμ6 => (zF_ck (zF_some hμ6)))))))))))))))))))
theorem rX11_slots {m : gM} {a1 a2 : Int32} {μ : gM} (h : kc m μ) : zF Prod.snd (kc m) (fX11_slots a1 a2 μ) := by
  unfold fX11_slots
  exact (zF_bv (fun x1 => (zF_ite (fun _ => (zF_some h)) (fun _ => (zF_bm (rX8_lay  h) (fun μ2 hμ2 => (zF_ck (zF_some hμ2))))))))
theorem rX12_slots {m : gM} {a1 a2 : Int32} {μ : gM} (h : RB m μ) : zF Prod.snd (RB m) (fX12_slots a1 a2 μ) := by
  unfold fX12_slots
  exact (zF_lm (RB_up h (by decide) (by decide) (by decide) (Or.inr (by decide))) (fun μ1 hμ1 => (zF_bv (fun x2 => (zF_ite (fun _ => (zF_some hμ1)) (fun _ => (zF_bv (fun x3 => (zF_ite (fun _ => (zF_some hμ1)) (fun _ => (zF_bm (rX12_laysSlots  hμ1) (fun μ4 hμ4 => (zF_ck (zF_some hμ4))))))))))))))
theorem rX11_host {m : gM} {a1 a2 a3 : Int32} {μ : gM} (h : kc m μ) : zF Prod.snd (kc m) (fX11_host a1 a2 a3 μ) := by
  unfold fX11_host
  exact (zF_bv (fun x1 => (zF_ite (fun _ => (zF_some h)) (fun _ => (zF_ite (fun _ => (zF_some h)) (fun _ => (zF_ck (zF_ite (fun _ => (zF_bm (rX8_lay  h) (fun μ3 hμ3 => (zF_ck (zF_ck (zF_bv (fun x6 => (zF_some hμ3)))))))) (fun _ => (zF_some h))))))))))
theorem rX12_host {m : gM} {a1 a2 a3 : Int32} {μ : gM} (h : RB m μ) : zF Prod.snd (RB m) (fX12_host a1 a2 a3 μ) := by
  unfold fX12_host
  exact (zF_lm (RB_up h (by decide) (by decide) (by decide) (Or.inr (by decide))) (fun μ1 hμ1 => (zF_bv (fun x2 => (zF_ite (fun _ => (zF_some hμ1)) (fun _ => (zF_bv (fun x3 => (zF_ite (fun _ => (zF_some hμ1)) (fun _ => (zF_ite (fun _ => (zF_bm (rX12_laysSlots  hμ1) (fun μ4 hμ4 => (zF_ck (zF_ck (zF_ck (zF_some hμ4))))))) (fun _ => (zF_some hμ1)))))))))))))
theorem rX11_load {m : gM} {a1 a2 a3 : Int32} {μ : gM} (h : kc m μ) : zF Prod.snd (kc m) (fX11_load a1 a2 a3 μ) := by
  unfold fX11_load
  exact (zF_bv (fun x1 => (zF_ite (fun _ => (zF_some h)) (fun _ => (zF_ite (fun _ => (zF_some h)) (fun _ => (zF_ite (fun _ => (zF_bm (rX8_lay  h) (fun μ2 hμ2 => (zF_bv (fun x3 => (zF_some hμ2)))))) (fun _ => (zF_some h)))))))))
theorem rX12_load_n96 {m : gM} {k58 : Int32 → Int32 → Int32 → Int32 → Int32 → gM → Option (Int32 × gM)} (hk58 : ∀ (u0 u1 u2 u3 u4 : Int32) (ν : gM), RB m ν → zF Prod.snd (RB m) (k58 u0 u1 u2 u3 u4 ν)) {y2 y3 y4 y6 z0 z1 z2 : Int32} {μ : gM} (h : RB m μ) : zF Prod.snd (RB m) (fX12_load_n96 k58 y2 y3 y4 y6 z0 z1 z2 μ) := by
  unfold fX12_load_n96
  exact (zF_bv (fun x12 => (zF_lv (fun x13 => (zF_lv (fun x14 => (hk58 _ _ _ _ _ _ h)))))))
theorem rX12_load_l58 {m : gM} : ∀ (n : Nat) (y2 y3 y4 y5 y6 : Int32) (μ : gM), RB m μ → zF Prod.snd (RB m) (fX12_load_l58  n y2 y3 y4 y5 y6 μ) := by
  intro n
  induction n with
  | zero => intro _ _ _ _ _ μ _; exact zF_none
  | succ n ih =>
    intro y2 y3 y4 y5 y6 μ h
    rw [fX12_load_l58]
    exact (zF_ite (fun _ => (zF_some h)) (fun _ => (zF_ck (zF_ite (fun _ => (zF_ck (zF_ck (zF_ite (fun _ => (rX12_load_n96 ih h)) (fun _ => (rX12_load_n96 ih h)))))) (fun _ => (zF_lv (fun x9 => (ih _ _ _ _ _ _ h))))))))
theorem rX12_load {m : gM} {a1 a2 a3 : Int32} {μ : gM} (h : RB m μ) : zF Prod.snd (RB m) (fX12_load a1 a2 a3 μ) := by
  unfold fX12_load
  exact (zF_lm (RB_up h (by decide) (by decide) (by decide) (Or.inr (by decide))) (fun μ1 hμ1 => (zF_bv (fun x2 => (zF_ite (fun _ => (zF_some hμ1)) (fun _ => (zF_bv (fun x3 => (zF_ite (fun _ => (zF_some hμ1)) (fun _ => (zF_bv (fun x4 => (zF_ite (fun _ => (zF_some hμ1)) (fun _ => (zF_bm (rX12_laysSlots  hμ1) (fun μ5 hμ5 => (zF_ck (zF_lv (fun x7 => (rX12_load_l58  _ _ _ _ _ _ _ hμ5))))))))))))))))))))
theorem rX9_copyNumbers {m : gM} {p0 : Nat} (hp : 248 ≤ p0) {p1 : Nat} {μ : gM} (h : kc m μ) : zF id (kc m) (fX9_copyNumbers p0 p1 μ) := by
  unfold fX9_copyNumbers
  exact (zF_lm (kc_up h (by omega)) (fun μ1 hμ1 => (zF_lm (kc_up hμ1 (by omega)) (fun μ2 hμ2 => (zF_lm (kc_up hμ2 (by omega)) (fun μ3 hμ3 => (zF_lm (kc_up hμ3 (by omega)) (fun μ4 hμ4 => (zF_lm (kc_up hμ4 (by omega)) (fun μ5 hμ5 => (zF_lm (kc_up hμ5 (by omega)) (fun μ6 hμ6 => (zF_lm (kc_up hμ6 (by omega)) (fun μ7 hμ7 => (zF_lm (kc_up hμ7 (by omega)) (fun μ8 hμ8 => (zF_lm (kc_up hμ8 (by omega)) (fun μ9 hμ9 => (zF_some hμ9)))))))))))))))))))
theorem rX5_copyFrom {m : gM} {p0 : Nat} (hp : 248 ≤ p0) {p1 : Nat} {μ : gM} (h : kc m μ) : zF id (kc m) (fX5_copyFrom p0 p1 μ) := by
  unfold fX5_copyFrom
  exact (zF_lm (kc_up h (by omega)) (fun μ1 hμ1 => (zF_lm (kc_cp hμ1 (by omega)) (fun μ2 hμ2 => (zF_some hμ2)))))
theorem rX0_copyFrom {m : gM} {p0 : Nat} (hp : 248 ≤ p0) {p1 : Nat} {μ : gM} (h : kc m μ) : zF id (kc m) (fX0_copyFrom p0 p1 μ) := by
  unfold fX0_copyFrom
  exact (zF_lm (kc_up h (by omega)) (fun μ1 hμ1 => (zF_lm (kc_up hμ1 (by omega)) (fun μ2 hμ2 => (zF_lm (kc_cp hμ2 (by omega)) (fun μ3 hμ3 => (zF_some hμ3)))))))
theorem rX9_copyFrom {m : gM} {p0 : Nat} (hp : 248 ≤ p0) {p1 : Nat} {μ : gM} (h : kc m μ) : zF id (kc m) (fX9_copyFrom p0 p1 μ) := by
  unfold fX9_copyFrom
  exact (zF_bm (rX9_copyNumbers (by omega) h) (fun μ1 hμ1 => (zF_bm (rX5_copyFrom (by omega) hμ1) (fun μ2 hμ2 => (zF_bm (rX0_copyFrom (by omega) hμ2) (fun μ3 hμ3 => (zF_lm (kc_cp hμ3 (by omega)) (fun μ4 hμ4 => (zF_lm (kc_cp hμ4 (by omega)) (fun μ5 hμ5 => (zF_lm (kc_cp hμ5 (by omega)) (fun μ6 hμ6 => (zF_lm (kc_cp hμ6 (by omega)) (fun μ7 hμ7 => (zF_lm (kc_cp hμ7 (by omega)) (fun μ8 hμ8 => (zF_lm (kc_cp hμ8 (by omega)) (fun μ9 hμ9 => (zF_lm (kc_cp hμ9 (by omega)) (fun μ10 hμ10 => (zF_lm (kc_cp hμ10 (by omega)) (fun μ11 hμ11 => (zF_lm (kc_cp hμ11 (by omega)) (fun μ12 hμ12 => (zF_some hμ12)))))))))))))))))))))))))
theorem rX10_runOneGroup {m : gM} {p0 : Nat} (hp : 248 ≤ p0) {a1 : Int32} {μ : gM} (h : kc m μ) : zF id (kc m) (fX10_runOneGroup p0 a1 μ) := by
  unfold fX10_runOneGroup
  exact (zF_lm (kc_up h (by omega)) (fun μ1 hμ1 => (zF_lm (kc_up hμ1 (by omega)) (fun μ2 hμ2 => (zF_some hμ2)))))
theorem rX10_runAllGroups {m : gM} {p0 : Nat} (hp : 248 ≤ p0) {μ : gM} (h : kc m μ) : zF id (kc m) (fX10_runAllGroups p0 μ) := by
  unfold fX10_runAllGroups
  exact (zF_lm (kc_up h (by omega)) (fun μ1 hμ1 => (zF_lm (kc_up hμ1 (by omega)) (fun μ2 hμ2 => (zF_some hμ2)))))
theorem rX3_open {m : gM} {a1 : Int32} {μ : gM} (h : kc m μ) : zF id (kc m) (fX3_open a1 μ) := by
  unfold fX3_open
  exact (zF_bm (rX9_copyFrom (by omega) h) (fun μ1 hμ1 => (zF_ite (fun _ => (zF_bm (rX10_runOneGroup (by omega) hμ1) (fun μ3 hμ3 => (zF_some hμ3)))) (fun _ => (zF_bm (rX10_runAllGroups (by omega) hμ1) (fun μ2 hμ2 => (zF_some hμ2)))))))
theorem rX0_add_n46 {m : gM} {p0 : Nat} (hp : 248 ≤ p0) {y1 y2 y3 y4 z0 : Int32} {μ : gM} (h : kc m μ) : zF id (kc m) (fX0_add_n46 p0 y1 y2 y3 y4 z0 μ) := by
  unfold fX0_add_n46
  exact (zF_lm (kc_up h (by omega)) (fun μ2 hμ2 => (zF_lv (fun x3 => (zF_ck (zF_lm (kc_up hμ2 (by omega)) (fun μ5 hμ5 => (zF_ck (zF_lm (kc_up hμ5 (by omega)) (fun μ7 hμ7 => (zF_ck (zF_lm (kc_up hμ7 (by omega)) (fun μ9 hμ9 => (zF_ck (zF_lm (kc_up hμ9 (by omega)) (fun μ11 hμ11 => (zF_some hμ11)))))))))))))))))
theorem rX0_add_n22 {m : gM} {p0 : Nat} (hp : 248 ≤ p0) {y1 y2 y3 y4 z0 : Int32} {μ : gM} (h : kc m μ) : zF id (kc m) (fX0_add_n22 p0 y1 y2 y3 y4 z0 μ) := by
  unfold fX0_add_n22
  exact (zF_lm (kc_up h (by omega)) (fun μ1 hμ1 => (zF_ite (fun _ => (rX0_add_n46 (by omega) hμ1)) (fun _ => (rX0_add_n46 (by omega) hμ1)))))
theorem rX0_add {m : gM} {p0 : Nat} (hp : 248 ≤ p0) {a1 a2 a3 a4 : Int32} {μ : gM} (h : kc m μ) : zF id (kc m) (fX0_add p0 a1 a2 a3 a4 μ) := by
  unfold fX0_add
  exact (zF_ite (fun _ => (rX0_add_n22 (by omega) h)) (fun _ => (rX0_add_n22 (by omega) h)))
theorem rX10_hold {m : gM} {p0 : Nat} (hp : 248 ≤ p0) {a1 a2 : Int32} {μ : gM} (h : kc m μ) : zF id (kc m) (fX10_hold p0 a1 a2 μ) := by
  unfold fX10_hold
  exact (zF_lv (fun x1 => (zF_ck (zF_ck (zF_lm (kc_up h (by omega)) (fun μ4 hμ4 => (zF_ck (zF_lm (kc_up hμ4 (by omega)) (fun μ6 hμ6 => (zF_ck (zF_lm (kc_up hμ6 (by omega)) (fun μ8 hμ8 => (zF_ck (zF_ck (zF_lm (kc_up hμ8 (by omega)) (fun μ11 hμ11 => (zF_lm (kc_up hμ11 (by omega)) (fun μ12 hμ12 => (zF_bm (rX0_add (by omega) hμ12) (fun μ13 hμ13 => (zF_some hμ13)))))))))))))))))))))
theorem rX10_await {m : gM} {p0 : Nat} (hp : 248 ≤ p0) {a1 a2 : Int32} {μ : gM} (h : kc m μ) : zF id (kc m) (fX10_await p0 a1 a2 μ) := by
  unfold fX10_await
  exact (zF_lv (fun x1 => (zF_ck (zF_bv (fun x3 => (zF_ck (zF_lm (kc_up h (by omega)) (fun μ5 hμ5 => (zF_ck (zF_lm (kc_up hμ5 (by omega)) (fun μ7 hμ7 => (zF_some hμ7))))))))))))
theorem rX10_raise_l30 {m : gM} {p0 : Nat} (hp : 248 ≤ p0) {k15 : Int32 → Int32 → gM → Option gM} (hk15 : ∀ (u0 u1 : Int32) (ν : gM), kc m ν → zF id (kc m) (k15 u0 u1 ν)) : ∀ (n : Nat) (y1 y2 y3 : Int32) (μ : gM), kc m μ → zF id (kc m) (fX10_raise_l30 p0 k15 n y1 y2 y3 μ) := by
  intro n
  induction n with
  | zero => intro _ _ _ μ _; exact zF_none
  | succ n ih =>
    intro y1 y2 y3 μ h
    rw [fX10_raise_l30]
    exact (zF_ite (fun _ => (zF_lv (fun x2 => (hk15 _ _ _ h)))) (fun _ => (zF_ck (zF_ite (fun _ => (zF_lv (fun x10 => (ih _ _ _ _ h)))) (fun _ => (zF_ck (zF_ite (fun _ => (zF_bm (rX10_hold (by omega) h) (fun μ7 hμ7 => (zF_lv (fun x8 => (ih _ _ _ _ hμ7)))))) (fun _ => (zF_bm (rX10_await (by omega) h) (fun μ5 hμ5 => (zF_lv (fun x6 => (ih _ _ _ _ hμ5)))))))))))))
theorem rX10_raise_l15 {m : gM} {p0 : Nat} (hp : 248 ≤ p0) : ∀ (n : Nat) (y1 y2 : Int32) (μ : gM), kc m μ → zF id (kc m) (fX10_raise_l15 p0 n y1 y2 μ) := by
  intro n
  induction n with
  | zero => intro _ _ μ _; exact zF_none
  | succ n ih =>
    intro y1 y2 μ h
    rw [fX10_raise_l15]
    exact (zF_ite (fun _ => (zF_some h)) (fun _ => (rX10_raise_l30 (by omega) ih _ _ _ _ _ h)))
theorem rX10_raise {m : gM} {p0 : Nat} (hp : 248 ≤ p0) {a1 : Int32} {μ : gM} (h : kc m μ) : zF id (kc m) (fX10_raise p0 a1 μ) := by
  unfold fX10_raise
  exact (zF_lm (kc_up h (by omega)) (fun μ1 hμ1 => (rX10_raise_l15 (by omega) _ _ _ _ hμ1)))
theorem rX10_lower_n102 {m : gM} {p0 : Nat} (hp : 248 ≤ p0) {k22 : Int32 → Int32 → Int32 → Int32 → gM → Option (Int32 × gM)} (hk22 : ∀ (u0 u1 u2 u3 : Int32) (ν : gM), kc m ν → zF Prod.snd (kc m) (k22 u0 u1 u2 u3 ν)) {y1 y2 y3 y4 : Int32} {μ : gM} (h : kc m μ) : zF Prod.snd (kc m) (fX10_lower_n102 p0 k22 y1 y2 y3 y4 μ) := by
  unfold fX10_lower_n102
  exact (zF_ck (zF_lm (kc_up h (by omega)) (fun μ4 hμ4 => (zF_ck (zF_lm (kc_up hμ4 (by omega)) (fun μ6 hμ6 => (zF_lv (fun x7 => (hk22 _ _ _ _ _ hμ6)))))))))
theorem rX10_sayFarewell_l55 {m : gM} {p0 : Nat} (hp : 248 ≤ p0) : ∀ (n : Nat) (y1 y3 y4 : Int32) (μ : gM), kc m μ → zF id (kc m) (fX10_sayFarewell_l55 p0 n y1 y3 y4 μ) := by
  intro n
  induction n with
  | zero => intro _ _ _ μ _; exact zF_none
  | succ n ih =>
    intro y1 y3 y4 μ h
    rw [fX10_sayFarewell_l55]
    exact (zF_ite (fun _ => (zF_some h)) (fun _ => (zF_lv (fun x6 => (zF_ite (fun _ => (zF_ck (zF_ck (zF_ck (zF_lm (kc_up h (by omega)) (fun μ11 hμ11 => (zF_lv (fun x12 => (ih _ _ _ _ hμ11))))))))) (fun _ => (zF_lv (fun x7 => (ih _ _ _ _ h)))))))))
theorem rX10_sayFarewell {m : gM} {p0 : Nat} (hp : 248 ≤ p0) {a1 a2 : Int32} {μ : gM} (h : kc m μ) : zF id (kc m) (fX10_sayFarewell p0 a1 a2 μ) := by
  unfold fX10_sayFarewell
  exact (zF_lm (kc_up h (by omega)) (fun μ1 hμ1 => (zF_ck (zF_bv (fun x3 => (zF_ck (zF_lv (fun x5 => (rX10_sayFarewell_l55 (by omega) _ _ _ _ _ hμ1)))))))))
theorem rX10_lower_l22 {m : gM} {p0 : Nat} (hp : 248 ≤ p0) : ∀ (n : Nat) (y1 y2 y3 y4 : Int32) (μ : gM), kc m μ → zF Prod.snd (kc m) (fX10_lower_l22 p0 n y1 y2 y3 y4 μ) := by
  intro n
  induction n with
  | zero => intro _ _ _ _ μ _; exact zF_none
  | succ n ih =>
    intro y1 y2 y3 y4 μ h
    rw [fX10_lower_l22]
    exact (zF_ite (fun _ => (zF_some h)) (fun _ => (zF_bv (fun x2 => (zF_ite (fun _ => (rX10_lower_n102 (by omega) ih h)) (fun _ => (zF_lv (fun x8 => (zF_ck (zF_ck (zF_lm (kc_up h (by omega)) (fun μ11 hμ11 => (zF_bm (rX0_add (by omega) hμ11) (fun μ12 hμ12 => (zF_ite (fun _ => (rX10_lower_n102 (by omega) ih hμ12)) (fun _ => (zF_bm (rX10_sayFarewell (by omega) hμ12) (fun μ13 hμ13 => (rX10_lower_n102 (by omega) ih hμ13)))))))))))))))))))
theorem rX10_lower {m : gM} {p0 : Nat} (hp : 248 ≤ p0) {a1 a2 : Int32} {μ : gM} (h : kc m μ) : zF Prod.snd (kc m) (fX10_lower p0 a1 a2 μ) := by
  unfold fX10_lower
  exact (zF_lm (kc_up h (by omega)) (fun μ1 hμ1 => (rX10_lower_l22 (by omega) _ _ _ _ _ _ hμ1)))
theorem rX10_weigh {m : gM} {p0 : Nat} (hp : 248 ≤ p0) {a1 : Int32} {μ : gM} (h : kc m μ) : zF id (kc m) (fX10_weigh p0 a1 μ) := by
  unfold fX10_weigh
  exact (zF_ck (zF_bv (fun x2 => (zF_ck (zF_lm (kc_up h (by omega)) (fun μ4 hμ4 => (zF_ck (zF_ck (zF_lm (kc_up hμ4 (by omega)) (fun μ7 hμ7 => (zF_some hμ7)))))))))))
theorem rX10_setCuts_l10 {m : gM} {p0 : Nat} (hp : 248 ≤ p0) : ∀ (n : Nat) (y2 : Int32) (μ : gM), kc m μ → zF id (kc m) (fX10_setCuts_l10 p0 n y2 μ) := by
  intro n
  induction n with
  | zero => intro _ μ _; exact zF_none
  | succ n ih =>
    intro y2 μ h
    rw [fX10_setCuts_l10]
    exact (zF_ite (fun _ => (zF_some h)) (fun _ => (zF_bm (rX10_weigh (by omega) h) (fun μ2 hμ2 => (zF_lv (fun x3 => (ih _ _ hμ2)))))))
theorem rX10_setCuts {m : gM} {p0 : Nat} (hp : 248 ≤ p0) {a1 : Int32} {μ : gM} (h : kc m μ) : zF id (kc m) (fX10_setCuts p0 a1 μ) := by
  unfold fX10_setCuts
  exact (zF_lm (kc_up h (by omega)) (fun μ1 hμ1 => (rX10_setCuts_l10 (by omega) _ _ _ hμ1)))
theorem rX10_tell {m : gM} {p0 : Nat} (hp : 248 ≤ p0) {a1 a2 a3 : Int32} {μ : gM} (h : kc m μ) : zF id (kc m) (fX10_tell p0 a1 a2 a3 μ) := by
  unfold fX10_tell
  exact (zF_bv (fun x1 => (zF_ite (fun _ => (zF_some h)) (fun _ => (zF_ck (zF_lm (kc_up h (by omega)) (fun μ3 hμ3 => (zF_bm (rX10_weigh (by omega) hμ3) (fun μ4 hμ4 => (zF_some hμ4))))))))))
theorem rX10_happen_l8 {m : gM} {p0 : Nat} (hp : 248 ≤ p0) : ∀ (n : Nat) (y1 : Int32) (μ : gM), kc m μ → zF id (kc m) (fX10_happen_l8 p0 n y1 μ) := by
  intro n
  induction n with
  | zero => intro _ μ _; exact zF_none
  | succ n ih =>
    intro y1 μ h
    rw [fX10_happen_l8]
    exact (zF_ite (fun _ => (zF_some h)) (fun _ => (zF_bv (fun x2 => (zF_ite (fun _ => (zF_lm (kc_up h (by omega)) (fun μ3 hμ3 => (zF_lv (fun x4 => (zF_ck (zF_lv (fun x6 => (zF_ck (zF_lv (fun x8 => (zF_ite (fun _ => (zF_bm (rX10_raise (by omega) hμ3) (fun μ10 hμ10 => (zF_lv (fun x11 => (ih _ _ hμ10)))))) (fun _ => (zF_ite (fun _ => (zF_bp (rX10_lower (by omega) hμ3) (fun x13 μ14 hμ14 => (zF_lv (fun x15 => (ih _ _ hμ14)))))) (fun _ => (zF_ite (fun _ => (zF_bm (rX10_setCuts (by omega) hμ3) (fun μ17 hμ17 => (zF_lv (fun x18 => (ih _ _ hμ17)))))) (fun _ => (zF_ite (fun _ => (zF_bm (rX10_setCuts (by omega) hμ3) (fun μ20 hμ20 => (zF_lv (fun x21 => (ih _ _ hμ20)))))) (fun _ => (zF_ite (fun _ => (zF_lm (kc_up hμ3 (by omega)) (fun μ23 hμ23 => (zF_lv (fun x24 => (ih _ _ hμ23)))))) (fun _ => (zF_ite (fun _ => (zF_lm (kc_up hμ3 (by omega)) (fun μ26 hμ26 => (zF_lv (fun x27 => (ih _ _ hμ26)))))) (fun _ => (zF_ite (fun _ => (zF_ck (zF_ck (zF_bm (rX10_tell (by omega) hμ3) (fun μ31 hμ31 => (zF_lv (fun x32 => (ih _ _ hμ31)))))))) (fun _ => (zF_lv (fun x33 => (ih _ _ hμ3)))))))))))))))))))))))))))) (fun _ => (zF_some h)))))))
theorem rX10_happen {m : gM} {p0 : Nat} (hp : 248 ≤ p0) {μ : gM} (h : kc m μ) : zF id (kc m) (fX10_happen p0 μ) := by
  unfold fX10_happen
  exact (zF_lv (fun x1 => (rX10_happen_l8 (by omega) _ _ _ h)))
theorem rX10_send_n84 {m : gM} {p0 : Nat} (hp : 248 ≤ p0) {k23 : Int32 → Int32 → Int32 → Int32 → gM → Option (Int32 × gM)} (hk23 : ∀ (u0 u1 u2 u3 : Int32) (ν : gM), kc m ν → zF Prod.snd (kc m) (k23 u0 u1 u2 u3 ν)) {y1 y2 y3 y4 y5 : Int32} {μ : gM} (h : kc m μ) : zF Prod.snd (kc m) (fX10_send_n84 p0 k23 y1 y2 y3 y4 y5 μ) := by
  unfold fX10_send_n84
  exact (zF_ck (zF_ck (zF_lm (kc_up h (by omega)) (fun μ9 hμ9 => (zF_lm (kc_up hμ9 (by omega)) (fun μ10 hμ10 => (zF_lv (fun x11 => (zF_lv (fun x12 => (hk23 _ _ _ _ _ hμ10)))))))))))
theorem rX10_send_l23 {m : gM} {p0 : Nat} (hp : 248 ≤ p0) : ∀ (n : Nat) (y1 y2 y3 y4 : Int32) (μ : gM), kc m μ → zF Prod.snd (kc m) (fX10_send_l23 p0 n y1 y2 y3 y4 μ) := by
  intro n
  induction n with
  | zero => intro _ _ _ _ μ _; exact zF_none
  | succ n ih =>
    intro y1 y2 y3 y4 μ h
    rw [fX10_send_l23]
    exact (zF_ite (fun _ => (zF_some h)) (fun _ => (zF_lv (fun x3 => (zF_ite (fun _ => (zF_lv (fun x4 => (ih _ _ _ _ _ h)))) (fun _ => (zF_ck (zF_ite (fun _ => (zF_bv (fun x6 => (zF_ite (fun _ => (zF_bm (rX10_hold (by omega) h) (fun μ13 hμ13 => (rX10_send_n84 (by omega) ih hμ13)))) (fun _ => (rX10_send_n84 (by omega) ih h)))))) (fun _ => (zF_lv (fun x15 => (ih _ _ _ _ _ h))))))))))))
theorem rX10_send {m : gM} {p0 : Nat} (hp : 248 ≤ p0) {a1 : Int32} {μ : gM} (h : kc m μ) : zF Prod.snd (kc m) (fX10_send p0 a1 μ) := by
  unfold fX10_send
  exact (zF_ck (zF_lv (fun x2 => (rX10_send_l23 (by omega) _ _ _ _ _ _ h))))
theorem rX10_wind_l21 {m : gM} {p0 : Nat} (hp : 248 ≤ p0) : ∀ (n : Nat) (y1 y2 y3 y4 : Int32) (μ : gM), kc m μ → zF id (kc m) (fX10_wind_l21 p0 n y1 y2 y3 y4 μ) := by
  intro n
  induction n with
  | zero => intro _ _ _ _ μ _; exact zF_none
  | succ n ih =>
    intro y1 y2 y3 y4 μ h
    rw [fX10_wind_l21]
    exact (zF_ite (fun _ => (zF_some h)) (fun _ => (zF_ite (fun _ => (zF_lv (fun x4 => (zF_ck (zF_ck (zF_lm (kc_up h (by omega)) (fun μ7 hμ7 => (zF_lv (fun x8 => (ih _ _ _ _ _ hμ7)))))))))) (fun _ => (zF_lv (fun x3 => (ih _ _ _ _ _ h)))))))
theorem rX10_wind {m : gM} {p0 : Nat} (hp : 248 ≤ p0) {a1 a2 : Int32} {μ : gM} (h : kc m μ) : zF id (kc m) (fX10_wind p0 a1 a2 μ) := by
  unfold fX10_wind
  exact (zF_ck (zF_lv (fun x2 => (rX10_wind_l21 (by omega) _ _ _ _ _ _ h))))
theorem rX10_isLost_n68 {m : gM} {p0 : Nat} (hp : 248 ≤ p0) {z0 : Int32} {μ : gM} (h : kc m μ) : zF Prod.snd (kc m) (fX10_isLost_n68 p0 z0 μ) := by
  unfold fX10_isLost_n68
  exact (zF_ite (fun _ => (zF_lm (kc_up h (by omega)) (fun μ2 hμ2 => (zF_ck (zF_some hμ2))))) (fun _ => (zF_lm (kc_up h (by omega)) (fun μ4 hμ4 => (zF_ck (zF_some hμ4))))))
theorem rX10_isLost {m : gM} {p0 : Nat} (hp : 248 ≤ p0) {μ : gM} (h : kc m μ) : zF Prod.snd (kc m) (fX10_isLost p0 μ) := by
  unfold fX10_isLost
  exact (zF_ite (fun _ => (zF_some h)) (fun _ => (zF_lm (kc_up h (by omega)) (fun μ1 hμ1 => (zF_ite (fun _ => (rX10_isLost_n68 (by omega) hμ1)) (fun _ => (rX10_isLost_n68 (by omega) hμ1)))))))
theorem rX10_readLetter_n117 {m : gM} {p0 : Nat} (hp : 248 ≤ p0) {y1 y3 : Int32} {μ : gM} (h : kc m μ) : zF id (kc m) (fX10_readLetter_n117 p0 y1 y3 μ) := by
  unfold fX10_readLetter_n117
  exact (zF_bm (rX10_await (by omega) h) (fun μ6 hμ6 => (zF_some hμ6)))
theorem rX10_readLetter_n155 {m : gM} {p0 : Nat} (hp : 248 ≤ p0) {y1 y3 y4 : Int32} {μ : gM} (h : kc m μ) : zF id (kc m) (fX10_readLetter_n155 p0 y1 y3 y4 μ) := by
  unfold fX10_readLetter_n155
  exact (zF_ck (zF_ck (zF_ite (fun _ => (zF_ck (zF_bv (fun x12 => (zF_ck (zF_lm (kc_up h (by omega)) (fun μ14 hμ14 => (zF_some hμ14)))))))) (fun _ => (zF_bm (rX10_hold (by omega) h) (fun μ15 hμ15 => (zF_some hμ15)))))))
theorem rX10_readLetter_n99 {m : gM} {p0 : Nat} (hp : 248 ≤ p0) {y1 y3 y4 y6 : Int32} {μ : gM} (h : kc m μ) : zF id (kc m) (fX10_readLetter_n99 p0 y1 y3 y4 y6 μ) := by
  unfold fX10_readLetter_n99
  exact (zF_ite (fun _ => (zF_ck (zF_ite (fun _ => (rX10_readLetter_n117 (by omega) h)) (fun _ => (zF_ck (zF_ite (fun _ => (zF_ck (zF_lm (kc_up h (by omega)) (fun μ18 hμ18 => (rX10_readLetter_n155 (by omega) hμ18))))) (fun _ => (rX10_readLetter_n155 (by omega) h)))))))) (fun _ => (rX10_readLetter_n117 (by omega) h)))
theorem rX10_giveUp {m : gM} {p0 : Nat} (hp : 248 ≤ p0) {a1 a2 : Int32} {μ : gM} (h : kc m μ) : zF id (kc m) (fX10_giveUp p0 a1 a2 μ) := by
  unfold fX10_giveUp
  exact (zF_ck (zF_ck (zF_lm (kc_up h (by omega)) (fun μ3 hμ3 => (zF_lm (kc_up hμ3 (by omega)) (fun μ4 hμ4 => (zF_bm (rX0_add (by omega) hμ4) (fun μ5 hμ5 => (zF_some hμ5)))))))))
theorem rX10_readLetter_n88 {m : gM} {p0 : Nat} (hp : 248 ≤ p0) {y1 y3 y4 y6 y7 : Int32} {μ : gM} (h : kc m μ) : zF id (kc m) (fX10_readLetter_n88 p0 y1 y3 y4 y6 y7 μ) := by
  unfold fX10_readLetter_n88
  exact (zF_ite (fun _ => (rX10_readLetter_n99 (by omega) h)) (fun _ => (zF_bm (rX10_giveUp (by omega) h) (fun μ22 hμ22 => (rX10_readLetter_n99 (by omega) hμ22)))))
theorem rX10_readLetter_n64 {m : gM} {p0 : Nat} (hp : 248 ≤ p0) {y1 y3 y4 z0 : Int32} {μ : gM} (h : kc m μ) : zF id (kc m) (fX10_readLetter_n64 p0 y1 y3 y4 z0 μ) := by
  unfold fX10_readLetter_n64
  exact (zF_bv (fun x5 => (zF_ite (fun _ => (rX10_readLetter_n88 (by omega) h)) (fun _ => (zF_ite (fun _ => (zF_some h)) (fun _ => (rX10_readLetter_n88 (by omega) h)))))))
theorem rX10_readLetter_n59 {m : gM} {p0 : Nat} (hp : 248 ≤ p0) {y1 y3 y4 : Int32} {μ : gM} (h : kc m μ) : zF id (kc m) (fX10_readLetter_n59 p0 y1 y3 y4 μ) := by
  unfold fX10_readLetter_n59
  exact (rX10_readLetter_n64 (by omega) h)
theorem rX10_readLetter {m : gM} {p0 : Nat} (hp : 248 ≤ p0) {a1 a2 a3 : Int32} {μ : gM} (h : kc m μ) : zF id (kc m) (fX10_readLetter p0 a1 a2 a3 μ) := by
  unfold fX10_readLetter
  exact (zF_lv (fun x1 => (zF_ck (zF_lv (fun x3 => (zF_ck (zF_ite (fun _ => (rX10_readLetter_n59 (by omega) h)) (fun _ => (zF_ck (zF_ite (fun _ => (zF_ite (fun _ => (rX10_readLetter_n64 (by omega) h)) (fun _ => (rX10_readLetter_n59 (by omega) h)))) (fun _ => (rX10_readLetter_n64 (by omega) h))))))))))))
theorem rX10_deliver_l56 {m : gM} {p0 : Nat} (hp : 248 ≤ p0) {k2 : Int32 → Int32 → Int32 → gM → Option gM} (hk2 : ∀ (u0 u1 u2 : Int32) (ν : gM), kc m ν → zF id (kc m) (k2 u0 u1 u2 ν)) : ∀ (n : Nat) (y1 y2 y3 y4 y5 : Int32) (μ : gM), kc m μ → zF id (kc m) (fX10_deliver_l56 p0 k2 n y1 y2 y3 y4 y5 μ) := by
  intro n
  induction n with
  | zero => intro _ _ _ _ _ μ _; exact zF_none
  | succ n ih =>
    intro y1 y2 y3 y4 y5 μ h
    rw [fX10_deliver_l56]
    exact (zF_ite (fun _ => (zF_lv (fun x4 => (hk2 _ _ _ _ h)))) (fun _ => (zF_ite (fun _ => (zF_bp (rX10_isLost (by omega) h) (fun x6 μ7 hμ7 => (zF_ite (fun _ => (zF_bm (rX10_readLetter (by omega) hμ7) (fun μ9 hμ9 => (zF_lv (fun x10 => (ih _ _ _ _ _ _ hμ9)))))) (fun _ => (zF_lv (fun x8 => (ih _ _ _ _ _ _ hμ7)))))))) (fun _ => (zF_lv (fun x5 => (ih _ _ _ _ _ _ h)))))))
theorem rX10_deliver_l2 {m : gM} {p0 : Nat} (hp : 248 ≤ p0) : ∀ (n : Nat) (y1 y2 y3 : Int32) (μ : gM), kc m μ → zF id (kc m) (fX10_deliver_l2 p0 n y1 y2 y3 μ) := by
  intro n
  induction n with
  | zero => intro _ _ _ μ _; exact zF_none
  | succ n ih =>
    intro y1 y2 y3 μ h
    rw [fX10_deliver_l2]
    exact (zF_ite (fun _ => (zF_some h)) (fun _ => (zF_ite (fun _ => (zF_lv (fun x14 => (ih _ _ _ _ h)))) (fun _ => (zF_ck (zF_bv (fun x2 => (zF_lv (fun x3 => (rX10_deliver_l56 (by omega) ih _ _ _ _ _ _ _ h))))))))))
theorem rX10_deliver {m : gM} {p0 : Nat} (hp : 248 ≤ p0) {a1 a2 : Int32} {μ : gM} (h : kc m μ) : zF id (kc m) (fX10_deliver p0 a1 a2 μ) := by
  unfold fX10_deliver
  exact (rX10_deliver_l2 (by omega) _ _ _ _ _ h)
theorem rX10_tally_n37 {m : gM} {p0 : Nat} (hp : 248 ≤ p0) {y1 y2 z0 : Int32} {μ : gM} (h : kc m μ) : zF id (kc m) (fX10_tally_n37 p0 y1 y2 z0 μ) := by
  unfold fX10_tally_n37
  exact (zF_ck (zF_ite (fun _ => (zF_ck (zF_lm (kc_up h (by omega)) (fun μ10 hμ10 => (zF_some hμ10))))) (fun _ => (zF_ck (zF_lm (kc_up h (by omega)) (fun μ12 hμ12 => (zF_some hμ12)))))))
theorem rX10_tally {m : gM} {p0 : Nat} (hp : 248 ≤ p0) {a1 a2 : Int32} {μ : gM} (h : kc m μ) : zF id (kc m) (fX10_tally p0 a1 a2 μ) := by
  unfold fX10_tally
  exact (zF_ck (zF_ite (fun _ => (zF_ck (zF_ite (fun _ => (rX10_tally_n37 (by omega) h)) (fun _ => (rX10_tally_n37 (by omega) h))))) (fun _ => (zF_bv (fun x2 => (zF_ite (fun _ => (zF_some h)) (fun _ => (zF_ck (zF_ck (zF_lm (kc_up h (by omega)) (fun μ5 hμ5 => (zF_some hμ5))))))))))))
theorem rX10_step_l26 {m : gM} {p0 : Nat} (hp : 248 ≤ p0) : ∀ (n : Nat) (y3 : Int32) (μ : gM), kc m μ → zF Prod.snd (kc m) (fX10_step_l26 p0 n y3 μ) := by
  intro n
  induction n with
  | zero => intro _ μ _; exact zF_none
  | succ n ih =>
    intro y3 μ h
    rw [fX10_step_l26]
    exact (zF_ite (fun _ => (zF_lm (kc_up h (by omega)) (fun μ4 hμ4 => (zF_some hμ4)))) (fun _ => (zF_bp (rX10_send (by omega) h) (fun x5 μ6 hμ6 => (zF_bm (rX10_wind (by omega) hμ6) (fun μ7 hμ7 => (zF_bm (rX10_deliver (by omega) hμ7) (fun μ8 hμ8 => (zF_bm (rX10_tally (by omega) hμ8) (fun μ9 hμ9 => (zF_lv (fun x10 => (ih _ _ hμ9)))))))))))))
theorem rX10_passQuietly_l5 {m : gM} {p0 : Nat} (hp : 248 ≤ p0) : ∀ (n : Nat) (y1 y2 : Int32) (μ : gM), kc m μ → zF id (kc m) (fX10_passQuietly_l5 p0 n y1 y2 μ) := by
  intro n
  induction n with
  | zero => intro _ _ μ _; exact zF_none
  | succ n ih =>
    intro y1 y2 μ h
    rw [fX10_passQuietly_l5]
    exact (zF_ite (fun _ => (zF_lm (kc_up h (by omega)) (fun μ2 hμ2 => (zF_some hμ2)))) (fun _ => (zF_bm (rX10_wind (by omega) h) (fun μ3 hμ3 => (zF_bm (rX10_tally (by omega) hμ3) (fun μ4 hμ4 => (zF_lv (fun x5 => (ih _ _ _ hμ4)))))))))
theorem rX10_passQuietly {m : gM} {p0 : Nat} (hp : 248 ≤ p0) {a1 : Int32} {μ : gM} (h : kc m μ) : zF id (kc m) (fX10_passQuietly p0 a1 μ) := by
  unfold fX10_passQuietly
  exact (zF_lv (fun x1 => (rX10_passQuietly_l5 (by omega) _ _ _ _ h)))
theorem rX10_step {m : gM} {p0 : Nat} (hp : 248 ≤ p0) {a1 : Int32} {μ : gM} (h : kc m μ) : zF Prod.snd (kc m) (fX10_step p0 a1 μ) := by
  unfold fX10_step
  exact (zF_bv (fun x1 => (zF_ite (fun _ => (zF_bm (rX10_happen (by omega) h) (fun μ2 hμ2 => (zF_lv (fun x3 => (rX10_step_l26 (by omega) _ _ _ hμ2)))))) (fun _ => (zF_bm (rX10_passQuietly (by omega) h) (fun μ12 hμ12 => (zF_some hμ12)))))))
theorem rX10_run_l2 {m : gM} {p0 : Nat} (hp : 248 ≤ p0) : ∀ (n : Nat) (y1 y2 : Int32) (μ : gM), kc m μ → zF id (kc m) (fX10_run_l2 p0 n y1 y2 μ) := by
  intro n
  induction n with
  | zero => intro _ _ μ _; exact zF_none
  | succ n ih =>
    intro y1 y2 μ h
    rw [fX10_run_l2]
    exact (zF_ite (fun _ => (zF_some h)) (fun _ => (zF_bp (rX10_step (by omega) h) (fun x1 μ2 hμ2 => (zF_lv (fun x3 => (ih _ _ _ hμ2)))))))
theorem rX10_run {m : gM} {p0 : Nat} (hp : 248 ≤ p0) {a1 : Int32} {μ : gM} (h : kc m μ) : zF id (kc m) (fX10_run p0 a1 μ) := by
  unfold fX10_run
  exact (rX10_run_l2 (by omega) _ _ _ _ h)
theorem rX3_heldIn {m : gM} {a1 a2 : Int32} {μ : gM} (h : kc m μ) : zF Prod.snd (kc m) (fX3_heldIn a1 a2 μ) := by
  unfold fX3_heldIn
  exact (zF_bm (rX3_open  h) (fun μ1 hμ1 => (zF_bm (rX10_run (by omega) hμ1) (fun μ2 hμ2 => (zF_ck (zF_some hμ2))))))
theorem rX11_ahead_n35 {m : gM} {y1 y2 z0 : Int32} {μ : gM} (h : kc m μ) : zF Prod.snd (kc m) (fX11_ahead_n35 y1 y2 z0 μ) := by
  unfold fX11_ahead_n35
  exact (zF_ite (fun _ => (zF_some h)) (fun _ => (zF_bp (rX3_heldIn  h) (fun x2 μ3 hμ3 => (zF_some hμ3)))))
theorem rX11_ahead {m : gM} {a1 a2 : Int32} {μ : gM} (h : kc m μ) : zF Prod.snd (kc m) (fX11_ahead a1 a2 μ) := by
  unfold fX11_ahead
  exact (zF_bv (fun x1 => (zF_ite (fun _ => (rX11_ahead_n35  h)) (fun _ => (zF_ite (fun _ => (rX11_ahead_n35  h)) (fun _ => (zF_ite (fun _ => (rX11_ahead_n35  h)) (fun _ => (zF_bv (fun x5 => (zF_ite (fun _ => (rX11_ahead_n35  h)) (fun _ => (rX11_ahead_n35  h)))))))))))))
theorem rX12_tickGoes_l78 {m : gM} : ∀ (n : Nat) (y1 : Int32) (μ : gM), PP m μ → zF id (PP m) (fX12_tickGoes_l78  n y1 μ) := by
  intro n
  induction n with
  | zero => intro _ μ _; exact zF_none
  | succ n ih =>
    intro y1 μ h
    rw [fX12_tickGoes_l78]
    exact (zF_bv (fun x3 => (zF_ite (fun _ => (zF_some h)) (fun _ => (zF_lv (fun x4 => (zF_ck (zF_bv (fun x6 => (zF_bv (fun x7 => (zF_ck (zF_lm (PP_up h (by decide) (by decide) (Or.inl (by decide))) (fun μ9 hμ9 => (zF_lv (fun x10 => (zF_ck (zF_bv (fun x12 => (zF_bv (fun x13 => (zF_ck (zF_lm (PP_up hμ9 (by decide) (by decide) (Or.inl (by decide))) (fun μ15 hμ15 => (zF_lv (fun x16 => (ih _ _ hμ15)))))))))))))))))))))))))))
theorem rX12_isLost_n66 {m : gM} {z0 : Int32} {μ : gM} (h : PP m μ) : zF Prod.snd (PP m) (fX12_isLost_n66 z0 μ) := by
  unfold fX12_isLost_n66
  exact (zF_bv (fun x3 => (zF_lm (PP_up h (by decide) (by decide) (Or.inl (by decide))) (fun μ4 hμ4 => (zF_ck (zF_some hμ4))))))
theorem rX12_isLost {m : gM} {μ : gM} (h : PP m μ) : zF Prod.snd (PP m) (fX12_isLost μ) := by
  unfold fX12_isLost
  exact (zF_ite (fun _ => (zF_some h)) (fun _ => (zF_lv (fun x1 => (zF_lm (PP_up h (by decide) (by decide) (Or.inl (by decide))) (fun μ2 hμ2 => (zF_ite (fun _ => (rX12_isLost_n66  hμ2)) (fun _ => (rX12_isLost_n66  hμ2)))))))))
theorem rX12_reads_n83 {m : gM} {y1 y3 y4 : Int32} {μ : gM} (h : PP m μ) : zF id (PP m) (fX12_reads_n83 y1 y3 y4 μ) := by
  unfold fX12_reads_n83
  exact (zF_ck (zF_lm (PP_up h (by decide) (by decide) (Or.inl (by decide))) (fun μ7 hμ7 => (zF_bv (fun x8 => (zF_ck (zF_lm (PP_up hμ7 (by decide) (by decide) (Or.inl (by decide))) (fun μ10 hμ10 => (zF_some hμ10)))))))))
theorem rX12_logs_l24 {m : gM} : ∀ (n : Nat) (y1 y2 y3 y4 y5 : Int32) (μ : gM), PP m μ → zF id (PP m) (fX12_logs_l24  n y1 y2 y3 y4 y5 μ) := by
  intro n
  induction n with
  | zero => intro _ _ _ _ _ μ _; exact zF_none
  | succ n ih =>
    intro y1 y2 y3 y4 y5 μ h
    rw [fX12_logs_l24]
    exact (zF_ite (fun _ => (zF_lm (PP_up h (by decide) (by decide) (Or.inl (by decide))) (fun μ3 hμ3 => (zF_lm (PP_up hμ3 (by decide) (by decide) (Or.inl (by decide))) (fun μ4 hμ4 => (zF_lm (PP_up hμ4 (by decide) (by decide) (Or.inl (by decide))) (fun μ5 hμ5 => (zF_lm (PP_up hμ5 (by decide) (by decide) (Or.inl (by decide))) (fun μ6 hμ6 => (zF_lm (PP_up hμ6 (by decide) (by decide) (Or.inl (by decide))) (fun μ7 hμ7 => (zF_some hμ7)))))))))))) (fun _ => (zF_ck (zF_ck (zF_lm (PP_up h (by decide) (by decide) (Or.inl (by decide))) (fun μ10 hμ10 => (zF_lv (fun x11 => (ih _ _ _ _ _ _ hμ10)))))))))
theorem rX12_logs {m : gM} {a1 a2 a3 : Int32} {μ : gM} (h : PP m μ) : zF id (PP m) (fX12_logs a1 a2 a3 μ) := by
  unfold fX12_logs
  exact (zF_bv (fun x1 => (zF_lv (fun x2 => (rX12_logs_l24  _ _ _ _ _ _ _ h)))))
theorem rX12_toHold {m : gM} {a1 a2 : Int32} {μ : gM} (h : PP m μ) : zF id (PP m) (fX12_toHold a1 a2 μ) := by
  unfold fX12_toHold
  exact (zF_bv (fun x1 => (zF_ck (zF_lm (PP_up h (by decide) (by decide) (Or.inl (by decide))) (fun μ3 hμ3 => (zF_bv (fun x4 => (zF_ck (zF_lm (PP_up hμ3 (by decide) (by decide) (Or.inl (by decide))) (fun μ6 hμ6 => (zF_bv (fun x7 => (zF_ck (zF_lm (PP_up hμ6 (by decide) (by decide) (Or.inl (by decide))) (fun μ9 hμ9 => (zF_lv (fun x10 => (zF_ck (zF_ck (zF_lm (PP_up hμ9 (by decide) (by decide) (Or.inl (by decide))) (fun μ13 hμ13 => (zF_lm (PP_up hμ13 (by decide) (by decide) (Or.inr (by decide))) (fun μ14 hμ14 => (zF_bm (rX12_logs  hμ14) (fun μ15 hμ15 => (zF_some hμ15))))))))))))))))))))))))))
theorem rX12_reads_n142 {m : gM} {y1 y3 y4 : Int32} {μ : gM} (h : PP m μ) : zF id (PP m) (fX12_reads_n142 y1 y3 y4 μ) := by
  unfold fX12_reads_n142
  exact (zF_ck (zF_ck (zF_ite (fun _ => (zF_bv (fun x15 => (zF_ck (zF_lm (PP_up h (by decide) (by decide) (Or.inl (by decide))) (fun μ17 hμ17 => (zF_some hμ17))))))) (fun _ => (zF_bm (rX12_toHold  h) (fun μ18 hμ18 => (zF_some hμ18)))))))
theorem rX12_toWait {m : gM} {a1 a2 : Int32} {μ : gM} (h : PP m μ) : zF id (PP m) (fX12_toWait a1 a2 μ) := by
  unfold fX12_toWait
  exact (zF_bv (fun x1 => (zF_ck (zF_lm (PP_up h (by decide) (by decide) (Or.inl (by decide))) (fun μ3 hμ3 => (zF_bv (fun x4 => (zF_bv (fun x5 => (zF_ck (zF_lm (PP_up hμ3 (by decide) (by decide) (Or.inl (by decide))) (fun μ7 hμ7 => (zF_bv (fun x8 => (zF_ck (zF_lm (PP_up hμ7 (by decide) (by decide) (Or.inl (by decide))) (fun μ10 hμ10 => (zF_some hμ10))))))))))))))))))
theorem rX12_reads {m : gM} {a1 a2 a3 : Int32} {μ : gM} (h : PP m μ) : zF id (PP m) (fX12_reads a1 a2 a3 μ) := by
  unfold fX12_reads
  exact (zF_bv (fun x1 => (zF_ck (zF_bv (fun x3 => (zF_bv (fun x4 => (zF_bv (fun x5 => (zF_ite (fun _ => (zF_ite (fun _ => (zF_ck (zF_ite (fun _ => (rX12_reads_n83  h)) (fun _ => (zF_ck (zF_ite (fun _ => (zF_ck (zF_lm (PP_up h (by decide) (by decide) (Or.inl (by decide))) (fun μ21 hμ21 => (rX12_reads_n142  hμ21))))) (fun _ => (rX12_reads_n142  h)))))))) (fun _ => (rX12_reads_n83  h)))) (fun _ => (zF_ite (fun _ => (zF_some h)) (fun _ => (zF_lm (PP_up h (by decide) (by decide) (Or.inr (by decide))) (fun μ25 hμ25 => (zF_bm (rX12_toWait  hμ25) (fun μ26 hμ26 => (zF_bm (rX12_logs  hμ26) (fun μ27 hμ27 => (zF_some hμ27))))))))))))))))))))
theorem rX12_groupGoes_l118 {m : gM} {k96 : Int32 → Int32 → gM → Option gM} (hk96 : ∀ (u0 u1 : Int32) (ν : gM), PP m ν → zF id (PP m) (k96 u0 u1 ν)) : ∀ (n : Nat) (y1 y2 y3 : Int32) (μ : gM), PP m μ → zF id (PP m) (fX12_groupGoes_l118 k96 n y1 y2 y3 μ) := by
  intro n
  induction n with
  | zero => intro _ _ _ μ _; exact zF_none
  | succ n ih =>
    intro y1 y2 y3 μ h
    rw [fX12_groupGoes_l118]
    exact (zF_bv (fun x5 => (zF_ite (fun _ => (zF_lv (fun x6 => (hk96 _ _ _ h)))) (fun _ => (zF_ite (fun _ => (zF_lv (fun x7 => (ih _ _ _ _ h)))) (fun _ => (zF_bv (fun x8 => (zF_ck (zF_ite (fun _ => (zF_lv (fun x10 => (ih _ _ _ _ h)))) (fun _ => (zF_bv (fun x11 => (zF_ite (fun _ => (zF_lv (fun x12 => (ih _ _ _ _ h)))) (fun _ => (zF_bp (rX12_isLost  h) (fun x13 μ14 hμ14 => (zF_ite (fun _ => (zF_bm (rX12_reads  hμ14) (fun μ16 hμ16 => (zF_lv (fun x17 => (ih _ _ _ _ hμ16)))))) (fun _ => (zF_lv (fun x15 => (ih _ _ _ _ hμ14))))))))))))))))))))))
theorem rX12_groupGoes_l96 {m : gM} : ∀ (n : Nat) (y1 y2 : Int32) (μ : gM), PP m μ → zF id (PP m) (fX12_groupGoes_l96  n y1 y2 μ) := by
  intro n
  induction n with
  | zero => intro _ _ μ _; exact zF_none
  | succ n ih =>
    intro y1 y2 μ h
    rw [fX12_groupGoes_l96]
    exact (zF_bv (fun x3 => (zF_ite (fun _ => (zF_some h)) (fun _ => (zF_ck (zF_ite (fun _ => (zF_lv (fun x23 => (ih _ _ _ h)))) (fun _ => (rX12_groupGoes_l118 ih _ _ _ _ _ h))))))))
theorem rX12_groupGoes_l47 {m : gM} : ∀ (n : Nat) (y1 y2 : Int32) (μ : gM), PP m μ → zF id (PP m) (fX12_groupGoes_l47  n y1 y2 μ) := by
  intro n
  induction n with
  | zero => intro _ _ μ _; exact zF_none
  | succ n ih =>
    intro y1 y2 μ h
    rw [fX12_groupGoes_l47]
    exact (zF_bv (fun x2 => (zF_ite (fun _ => (rX12_groupGoes_l96  _ _ _ _ h)) (fun _ => (zF_bv (fun x26 => (zF_ck (zF_ite (fun _ => (zF_lv (fun x28 => (ih _ _ _ h)))) (fun _ => (zF_bv (fun x29 => (zF_lv (fun x30 => (zF_ck (zF_ck (zF_lm (PP_up h (by decide) (by decide) (Or.inl (by decide))) (fun μ33 hμ33 => (zF_lv (fun x34 => (ih _ _ _ hμ33))))))))))))))))))))
theorem rX12_sends_n44 {m : gM} {y1 y2 y3 : Int32} {μ : gM} (h : PP m μ) : zF id (PP m) (fX12_sends_n44 y1 y2 y3 μ) := by
  unfold fX12_sends_n44
  exact (zF_bv (fun x5 => (zF_ite (fun _ => (zF_some h)) (fun _ => (zF_ck (zF_ite (fun _ => (zF_bv (fun x7 => (zF_ck (zF_lm (PP_up h (by decide) (by decide) (Or.inl (by decide))) (fun μ9 hμ9 => (zF_lm (PP_up hμ9 (by decide) (by decide) (Or.inl (by decide))) (fun μ10 hμ10 => (zF_ck (zF_ck (zF_lm (PP_up hμ10 (by decide) (by decide) (Or.inl (by decide))) (fun μ13 hμ13 => (zF_some hμ13))))))))))))) (fun _ => (zF_some h))))))))
theorem rX12_sends {m : gM} {a1 a2 : Int32} {μ : gM} (h : PP m μ) : zF id (PP m) (fX12_sends a1 a2 μ) := by
  unfold fX12_sends
  exact (zF_bv (fun x1 => (zF_ck (zF_lm (PP_up h (by decide) (by decide) (Or.inl (by decide))) (fun μ3 hμ3 => (zF_ck (zF_ite (fun _ => (zF_ck (zF_ite (fun _ => (rX12_sends_n44  hμ3)) (fun _ => (zF_bm (rX12_toHold  hμ3) (fun μ17 hμ17 => (rX12_sends_n44  hμ17))))))) (fun _ => (rX12_sends_n44  hμ3)))))))))
theorem rX12_groupGoes_l2 {m : gM} : ∀ (n : Nat) (y1 y2 : Int32) (μ : gM), PP m μ → zF id (PP m) (fX12_groupGoes_l2  n y1 y2 μ) := by
  intro n
  induction n with
  | zero => intro _ _ μ _; exact zF_none
  | succ n ih =>
    intro y1 y2 μ h
    rw [fX12_groupGoes_l2]
    exact (zF_bv (fun x1 => (zF_ite (fun _ => (rX12_groupGoes_l47  _ _ _ _ h)) (fun _ => (zF_ck (zF_lm (PP_up h (by decide) (by decide) (Or.inl (by decide))) (fun μ38 hμ38 => (zF_bv (fun x39 => (zF_ck (zF_ite (fun _ => (zF_lv (fun x41 => (ih _ _ _ hμ38)))) (fun _ => (zF_bm (rX12_sends  hμ38) (fun μ42 hμ42 => (zF_lv (fun x43 => (ih _ _ _ hμ42)))))))))))))))))
theorem rX12_groupGoes {m : gM} {a1 : Int32} {μ : gM} (h : PP m μ) : zF id (PP m) (fX12_groupGoes a1 μ) := by
  unfold fX12_groupGoes
  exact (rX12_groupGoes_l2  _ _ _ _ h)
theorem rX12_tickGoes_l47 {m : gM} : ∀ (n : Nat) (y1 : Int32) (μ : gM), PP m μ → zF id (PP m) (fX12_tickGoes_l47  n y1 μ) := by
  intro n
  induction n with
  | zero => intro _ μ _; exact zF_none
  | succ n ih =>
    intro y1 μ h
    rw [fX12_tickGoes_l47]
    exact (zF_bv (fun x1 => (zF_ite (fun _ => (zF_lm (PP_up h (by decide) (by decide) (Or.inl (by decide))) (fun μ2 hμ2 => (rX12_tickGoes_l78  _ _ _ hμ2)))) (fun _ => (zF_bm (rX12_groupGoes  h) (fun μ18 hμ18 => (zF_lv (fun x19 => (ih _ _ hμ18)))))))))
theorem rX12_comesUp_l14 {m : gM} : ∀ (n : Nat) (y1 y2 : Int32) (μ : gM), PP m μ → zF id (PP m) (fX12_comesUp_l14  n y1 y2 μ) := by
  intro n
  induction n with
  | zero => intro _ _ μ _; exact zF_none
  | succ n ih =>
    intro y1 y2 μ h
    rw [fX12_comesUp_l14]
    exact (zF_bv (fun x2 => (zF_ite (fun _ => (zF_some h)) (fun _ => (zF_bv (fun x3 => (zF_ite (fun _ => (zF_lv (fun x10 => (ih _ _ _ h)))) (fun _ => (zF_bv (fun x4 => (zF_ite (fun _ => (zF_bm (rX12_toHold  h) (fun μ7 hμ7 => (zF_lv (fun x8 => (ih _ _ _ hμ7)))))) (fun _ => (zF_bm (rX12_toWait  h) (fun μ5 hμ5 => (zF_lv (fun x6 => (ih _ _ _ hμ5)))))))))))))))))
theorem rX12_comesUp {m : gM} {a1 : Int32} {μ : gM} (h : PP m μ) : zF id (PP m) (fX12_comesUp a1 μ) := by
  unfold fX12_comesUp
  exact (zF_lm (PP_up h (by decide) (by decide) (Or.inl (by decide))) (fun μ1 hμ1 => (rX12_comesUp_l14  _ _ _ _ hμ1)))
theorem rX12_farewell_l12 {m : gM} : ∀ (n : Nat) (y1 y2 y3 : Int32) (μ : gM), PP m μ → zF id (PP m) (fX12_farewell_l12  n y1 y2 y3 μ) := by
  intro n
  induction n with
  | zero => intro _ _ _ μ _; exact zF_none
  | succ n ih =>
    intro y1 y2 y3 μ h
    rw [fX12_farewell_l12]
    exact (zF_bv (fun x2 => (zF_ite (fun _ => (zF_some h)) (fun _ => (zF_bv (fun x3 => (zF_ck (zF_ite (fun _ => (zF_bv (fun x6 => (zF_ite (fun _ => (zF_lv (fun x7 => (ih _ _ _ _ h)))) (fun _ => (zF_ck (zF_bv (fun x9 => (zF_bv (fun x10 => (zF_bv (fun x11 => (zF_ck (zF_lm (PP_up h (by decide) (by decide) (Or.inl (by decide))) (fun μ13 hμ13 => (zF_lv (fun x14 => (ih _ _ _ _ hμ13)))))))))))))))))) (fun _ => (zF_lv (fun x5 => (ih _ _ _ _ h))))))))))))
theorem rX12_farewell {m : gM} {a1 a2 : Int32} {μ : gM} (h : PP m μ) : zF id (PP m) (fX12_farewell a1 a2 μ) := by
  unfold fX12_farewell
  exact (zF_lm (PP_up h (by decide) (by decide) (Or.inl (by decide))) (fun μ1 hμ1 => (rX12_farewell_l12  _ _ _ _ _ hμ1)))
theorem rX12_goesDown_l19 {m : gM} : ∀ (n : Nat) (y1 y2 y3 y4 : Int32) (μ : gM), PP m μ → zF Prod.snd (PP m) (fX12_goesDown_l19  n y1 y2 y3 y4 μ) := by
  intro n
  induction n with
  | zero => intro _ _ _ _ μ _; exact zF_none
  | succ n ih =>
    intro y1 y2 y3 y4 μ h
    rw [fX12_goesDown_l19]
    exact (zF_bv (fun x2 => (zF_ite (fun _ => (zF_some h)) (fun _ => (zF_bv (fun x3 => (zF_bv (fun x4 => (zF_ck (zF_lm (PP_up h (by decide) (by decide) (Or.inl (by decide))) (fun μ6 hμ6 => (zF_ck (zF_lm (PP_up hμ6 (by decide) (by decide) (Or.inl (by decide))) (fun μ8 hμ8 => (zF_ck (zF_lm (PP_up hμ8 (by decide) (by decide) (Or.inl (by decide))) (fun μ10 hμ10 => (zF_ite (fun _ => (zF_lv (fun x17 => (ih _ _ _ _ _ hμ10)))) (fun _ => (zF_lv (fun x11 => (zF_bm (rX12_logs  hμ10) (fun μ12 hμ12 => (zF_ite (fun _ => (zF_lv (fun x13 => (ih _ _ _ _ _ hμ12)))) (fun _ => (zF_bm (rX12_farewell  hμ12) (fun μ14 hμ14 => (zF_lv (fun x15 => (ih _ _ _ _ _ hμ14))))))))))))))))))))))))))))))
theorem rX12_goesDown {m : gM} {a1 a2 : Int32} {μ : gM} (h : PP m μ) : zF Prod.snd (PP m) (fX12_goesDown a1 a2 μ) := by
  unfold fX12_goesDown
  exact (zF_lm (PP_up h (by decide) (by decide) (Or.inl (by decide))) (fun μ1 hμ1 => (rX12_goesDown_l19  _ _ _ _ _ _ hμ1)))
theorem rX12_happens {m : gM} {a1 : Int32} {μ : gM} (h : PP m μ) : zF id (PP m) (fX12_happens a1 μ) := by
  unfold fX12_happens
  exact (zF_ck (zF_lv (fun x2 => (zF_ck (zF_lv (fun x4 => (zF_ite (fun _ => (zF_bv (fun x6 => (zF_ite (fun _ => (zF_bm (rX12_comesUp  h) (fun μ7 hμ7 => (zF_some hμ7)))) (fun _ => (zF_some h)))))) (fun _ => (zF_ite (fun _ => (zF_bv (fun x10 => (zF_ite (fun _ => (zF_some h)) (fun _ => (zF_bp (rX12_goesDown  h) (fun x11 μ12 hμ12 => (zF_some hμ12)))))))) (fun _ => (zF_ite (fun _ => (zF_lm (PP_up h (by decide) (by decide) (Or.inl (by decide))) (fun μ15 hμ15 => (zF_some hμ15)))) (fun _ => (zF_ite (fun _ => (zF_lm (PP_up h (by decide) (by decide) (Or.inl (by decide))) (fun μ17 hμ17 => (zF_some hμ17)))) (fun _ => (zF_ite (fun _ => (zF_lm (PP_up h (by decide) (by decide) (Or.inl (by decide))) (fun μ19 hμ19 => (zF_some hμ19)))) (fun _ => (zF_ite (fun _ => (zF_lm (PP_up h (by decide) (by decide) (Or.inl (by decide))) (fun μ21 hμ21 => (zF_some hμ21)))) (fun _ => (zF_ck (zF_bv (fun x23 => (zF_ck (zF_ck (zF_lm (PP_up h (by decide) (by decide) (Or.inl (by decide))) (fun μ26 hμ26 => (zF_some hμ26))))))))))))))))))))))))))
theorem rX12_tickGoes_l2 {m : gM} : ∀ (n : Nat) (y1 : Int32) (μ : gM), PP m μ → zF id (PP m) (fX12_tickGoes_l2  n y1 μ) := by
  intro n
  induction n with
  | zero => intro _ μ _; exact zF_none
  | succ n ih =>
    intro y1 μ h
    rw [fX12_tickGoes_l2]
    exact (zF_ite (fun _ => (rX12_tickGoes_l47  _ _ _ h)) (fun _ => (zF_ck (zF_ite (fun _ => (zF_bm (rX12_happens  h) (fun μ23 hμ23 => (zF_lv (fun x24 => (ih _ _ hμ23)))))) (fun _ => (zF_lv (fun x22 => (ih _ _ h))))))))
theorem rX12_tickGoes {m : gM} {μ : gM} (h : PP m μ) : zF id (PP m) (fX12_tickGoes μ) := by
  unfold fX12_tickGoes
  exact (rX12_tickGoes_l2  _ _ _ h)
theorem rX12_goes_l2 {m : gM} : ∀ (n : Nat) (y1 y2 : Int32) (μ : gM), PP m μ → zF id (PP m) (fX12_goes_l2  n y1 y2 μ) := by
  intro n
  induction n with
  | zero => intro _ _ μ _; exact zF_none
  | succ n ih =>
    intro y1 y2 μ h
    rw [fX12_goes_l2]
    exact (zF_ite (fun _ => (zF_some h)) (fun _ => (zF_bm (rX12_tickGoes  h) (fun μ1 hμ1 => (zF_lv (fun x2 => (ih _ _ _ hμ1)))))))
theorem rX12_goes {m : gM} {a1 : Int32} {μ : gM} (h : PP m μ) : zF id (PP m) (fX12_goes a1 μ) := by
  unfold fX12_goes
  exact (rX12_goes_l2  _ _ _ _ h)
theorem rX12_ahead {m : gM} {a1 a2 : Int32} {μ : gM} (h : RB m μ) : zF Prod.snd (RB m) (fX12_ahead a1 a2 μ) := by
  unfold fX12_ahead
  exact (zF_lm (RB_up h (by decide) (by decide) (by decide) (Or.inr (by decide))) (fun μ1 hμ1 => (zF_bv (fun x2 => (zF_ite (fun _ => (zF_some hμ1)) (fun _ => (zF_bv (fun x3 => (zF_ite (fun _ => (zF_some hμ1)) (fun _ => (zF_bv (fun x4 => (zF_ite (fun _ => (zF_some hμ1)) (fun _ => (zF_bm (rX12_toPaper  hμ1) (fun μ5 hμ5 => (zF_bm (rX12_goes  hμ5) (fun μ6 hμ6 => (zF_bv (fun x7 => (zF_bp (rX12_fromPaper  hμ6) (fun x8 μ9 hμ9 => (zF_some hμ9)))))))))))))))))))))))
theorem rX3_takenBehind_n62 {m : gM} {y1 y2 y4 : Int32} {μ : gM} (h : kc m μ) : zF Prod.snd (kc m) (fX3_takenBehind_n62 y1 y2 y4 μ) := by
  unfold fX3_takenBehind_n62
  exact (zF_bv (fun x5 => (zF_ite (fun _ => (zF_some h)) (fun _ => (zF_some h)))))
theorem rX3_takenBehind_l23 {m : gM} : ∀ (n : Nat) (y1 y2 y3 y4 : Int32) (μ : gM), kc m μ → zF Prod.snd (kc m) (fX3_takenBehind_l23  n y1 y2 y3 y4 μ) := by
  intro n
  induction n with
  | zero => intro _ _ _ _ μ _; exact zF_none
  | succ n ih =>
    intro y1 y2 y3 y4 μ h
    rw [fX3_takenBehind_l23]
    exact (zF_ite (fun _ => (rX3_takenBehind_n62  h)) (fun _ => (zF_bv (fun x7 => (zF_ite (fun _ => (zF_bp (rX10_step (by omega) h) (fun x8 μ9 hμ9 => (zF_lv (fun x10 => (ih _ _ _ _ _ hμ9)))))) (fun _ => (rX3_takenBehind_n62  h)))))))
theorem rX3_takenBehind {m : gM} {a1 a2 : Int32} {μ : gM} (h : kc m μ) : zF Prod.snd (kc m) (fX3_takenBehind a1 a2 μ) := by
  unfold fX3_takenBehind
  exact (zF_bm (rX3_open  h) (fun μ1 hμ1 => (zF_bp (rX10_lower (by omega) hμ1) (fun x2 μ3 hμ3 => (zF_bv (fun x4 => (rX3_takenBehind_l23  _ _ _ _ _ _ hμ3)))))))
theorem rX11_fails {m : gM} {a1 a2 a3 : Int32} {μ : gM} (h : kc m μ) : zF Prod.snd (kc m) (fX11_fails a1 a2 a3 μ) := by
  unfold fX11_fails
  exact (zF_bv (fun x1 => (zF_ite (fun _ => (zF_some h)) (fun _ => (zF_bv (fun x2 => (zF_ite (fun _ => (zF_some h)) (fun _ => (zF_ite (fun _ => (zF_some h)) (fun _ => (zF_ite (fun _ => (zF_bp (rX3_takenBehind  h) (fun x3 μ4 hμ4 => (zF_ite (fun _ => (zF_some hμ4)) (fun _ => (zF_bv (fun x5 => (zF_some hμ4)))))))) (fun _ => (zF_some h)))))))))))))
theorem rX12_failsIn_n97 {m : gM} {z0 : Int32} {μ : gM} (h : PP m μ) : zF Prod.snd (RB m) (fX12_failsIn_n97 z0 μ) := by
  unfold fX12_failsIn_n97
  exact (zF_bp (rX12_fromPaper  h) (fun x6 μ7 hμ7 => (zF_some hμ7)))
theorem rX12_failsIn_n83 {m : gM} {y3 : Int32} {μ : gM} (h : PP m μ) : zF Prod.snd (RB m) (fX12_failsIn_n83 y3 μ) := by
  unfold fX12_failsIn_n83
  exact (zF_ite (fun _ => (rX12_failsIn_n97  h)) (fun _ => (rX12_failsIn_n97  h)))
theorem rX12_failsIn_l23 {m : gM} : ∀ (n : Nat) (y1 y2 y3 : Int32) (μ : gM), PP m μ → zF Prod.snd (RB m) (fX12_failsIn_l23  n y1 y2 y3 μ) := by
  intro n
  induction n with
  | zero => intro _ _ _ μ _; exact zF_none
  | succ n ih =>
    intro y1 y2 y3 μ h
    rw [fX12_failsIn_l23]
    exact (zF_ite (fun _ => (zF_ite (fun _ => (rX12_failsIn_n83  h)) (fun _ => (zF_bv (fun x9 => (zF_ite (fun _ => (rX12_failsIn_n83  h)) (fun _ => (zF_bm (rX12_tickGoes  h) (fun μ10 hμ10 => (zF_lv (fun x11 => (zF_bv (fun x12 => (zF_bv (fun x13 => (zF_bv (fun x14 => (zF_lm (PP_up hμ10 (by decide) (by decide) (Or.inr (by decide))) (fun μ15 hμ15 => (ih _ _ _ _ hμ15)))))))))))))))))))) (fun _ => (rX12_failsIn_n83  h)))
theorem rX12_failsIn {m : gM} {a1 a2 : Int32} {μ : gM} (h : RB m μ) : zF Prod.snd (RB m) (fX12_failsIn a1 a2 μ) := by
  unfold fX12_failsIn
  exact (zF_bm (rX12_toPaper  h) (fun μ1 hμ1 => (zF_bp (rX12_goesDown  hμ1) (fun x2 μ3 hμ3 => (zF_bv (fun x4 => (zF_lm (PP_up hμ3 (by decide) (by decide) (Or.inr (by decide))) (fun μ5 hμ5 => (rX12_failsIn_l23  _ _ _ _ _ hμ5)))))))))
theorem rX12_fails {m : gM} {a1 a2 a3 : Int32} {μ : gM} (h : RB m μ) : zF Prod.snd (RB m) (fX12_fails a1 a2 a3 μ) := by
  unfold fX12_fails
  exact (zF_lm (RB_up h (by decide) (by decide) (by decide) (Or.inr (by decide))) (fun μ1 hμ1 => (zF_bv (fun x2 => (zF_ite (fun _ => (zF_some hμ1)) (fun _ => (zF_bv (fun x3 => (zF_ite (fun _ => (zF_some hμ1)) (fun _ => (zF_bv (fun x4 => (zF_ite (fun _ => (zF_some hμ1)) (fun _ => (zF_bv (fun x5 => (zF_ite (fun _ => (zF_some hμ1)) (fun _ => (zF_bp (rX12_failsIn  hμ1) (fun x6 μ7 hμ7 => (zF_ite (fun _ => (zF_some hμ7)) (fun _ => (zF_some hμ7)))))))))))))))))))))))
theorem rX11_worst_l49 {m : gM} : ∀ (n : Nat) (y1 y2 y3 y4 y5 y6 : Int32) (μ : gM), kc m μ → zF Prod.snd (kc m) (fX11_worst_l49  n y1 y2 y3 y4 y5 y6 μ) := by
  intro n
  induction n with
  | zero => intro _ _ _ _ _ _ μ _; exact zF_none
  | succ n ih =>
    intro y1 y2 y3 y4 y5 y6 μ h
    rw [fX11_worst_l49]
    exact (zF_ite (fun _ => (zF_ite (fun _ => (zF_some h)) (fun _ => (zF_some h)))) (fun _ => (zF_ite (fun _ => (zF_lv (fun x12 => (ih _ _ _ _ _ _ _ h)))) (fun _ => (zF_bp (rX3_takenBehind  h) (fun x5 μ6 hμ6 => (zF_ite (fun _ => (zF_ite (fun _ => (zF_some hμ6)) (fun _ => (zF_some hμ6)))) (fun _ => (zF_ite (fun _ => (zF_lv (fun x7 => (ih _ _ _ _ _ _ _ hμ6)))) (fun _ => (zF_lv (fun x8 => (ih _ _ _ _ _ _ _ hμ6)))))))))))))
theorem rX11_worst {m : gM} {a1 a2 : Int32} {μ : gM} (h : kc m μ) : zF Prod.snd (kc m) (fX11_worst a1 a2 μ) := by
  unfold fX11_worst
  exact (zF_bv (fun x1 => (zF_ite (fun _ => (zF_some h)) (fun _ => (zF_ite (fun _ => (zF_some h)) (fun _ => (zF_ite (fun _ => (zF_ck (zF_lv (fun x3 => (rX11_worst_l49  _ _ _ _ _ _ _ _ h))))) (fun _ => (zF_some h)))))))))
theorem rX12_worst_l33 {m : gM} : ∀ (n : Nat) (y1 y2 y3 y4 y5 : Int32) (μ : gM), RB m μ → zF Prod.snd (RB m) (fX12_worst_l33  n y1 y2 y3 y4 y5 μ) := by
  intro n
  induction n with
  | zero => intro _ _ _ _ _ μ _; exact zF_none
  | succ n ih =>
    intro y1 y2 y3 y4 y5 μ h
    rw [fX12_worst_l33]
    exact (zF_bv (fun x4 => (zF_ite (fun _ => (zF_ite (fun _ => (zF_some h)) (fun _ => (zF_some h)))) (fun _ => (zF_bv (fun x6 => (zF_ck (zF_ite (fun _ => (zF_lv (fun x15 => (ih _ _ _ _ _ _ h)))) (fun _ => (zF_bp (rX12_failsIn  h) (fun x8 μ9 hμ9 => (zF_ite (fun _ => (zF_ite (fun _ => (zF_some hμ9)) (fun _ => (zF_some hμ9)))) (fun _ => (zF_ite (fun _ => (zF_lv (fun x10 => (ih _ _ _ _ _ _ hμ9)))) (fun _ => (zF_lv (fun x11 => (ih _ _ _ _ _ _ hμ9))))))))))))))))))
theorem rX12_worst {m : gM} {a1 a2 : Int32} {μ : gM} (h : RB m μ) : zF Prod.snd (RB m) (fX12_worst a1 a2 μ) := by
  unfold fX12_worst
  exact (zF_lm (RB_up h (by decide) (by decide) (by decide) (Or.inr (by decide))) (fun μ1 hμ1 => (zF_bv (fun x2 => (zF_ite (fun _ => (zF_some hμ1)) (fun _ => (zF_bv (fun x3 => (zF_ite (fun _ => (zF_some hμ1)) (fun _ => (rX12_worst_l33  _ _ _ _ _ _ _ hμ1)))))))))))
theorem rX3_openAll {m : gM} {μ : gM} (h : kc m μ) : zF id (kc m) (fX3_openAll μ) := by
  unfold fX3_openAll
  exact (zF_bm (rX9_copyFrom (by omega) h) (fun μ1 hμ1 => (zF_bm (rX10_runAllGroups (by omega) hμ1) (fun μ2 hμ2 => (zF_some hμ2)))))
theorem rX3_calmFrom_n77 {m : gM} {y1 : Int32} {μ : gM} (h : kc m μ) : zF Prod.snd (kc m) (fX3_calmFrom_n77 y1 μ) := by
  unfold fX3_calmFrom_n77
  exact (zF_ite (fun _ => (zF_some h)) (fun _ => (zF_some h)))
theorem rX3_calmFrom_l8 {m : gM} : ∀ (n : Nat) (y1 y2 : Int32) (μ : gM), kc m μ → zF Prod.snd (kc m) (fX3_calmFrom_l8  n y1 y2 μ) := by
  intro n
  induction n with
  | zero => intro _ _ μ _; exact zF_none
  | succ n ih =>
    intro y1 y2 μ h
    rw [fX3_calmFrom_l8]
    exact (zF_ite (fun _ => (rX3_calmFrom_n77  h)) (fun _ => (zF_ite (fun _ => (rX3_calmFrom_n77  h)) (fun _ => (zF_ite (fun _ => (rX3_calmFrom_n77  h)) (fun _ => (zF_lv (fun x3 => (zF_bp (rX10_step (by omega) h) (fun x4 μ5 hμ5 => (zF_lv (fun x6 => (zF_ite (fun _ => (ih _ _ _ hμ5)) (fun _ => (ih _ _ _ hμ5)))))))))))))))
theorem rX3_calmFrom {m : gM} {μ : gM} (h : kc m μ) : zF Prod.snd (kc m) (fX3_calmFrom μ) := by
  unfold fX3_calmFrom
  exact (zF_bm (rX3_openAll  h) (fun μ1 hμ1 => (rX3_calmFrom_l8  _ _ _ _ hμ1)))
theorem rX11_settles {m : gM} {μ : gM} (h : kc m μ) : zF Prod.snd (kc m) (fX11_settles μ) := by
  unfold fX11_settles
  exact (zF_ite (fun _ => (zF_some h)) (fun _ => (zF_bv (fun x1 => (zF_ite (fun _ => (zF_some h)) (fun _ => (zF_bp (rX3_calmFrom  h) (fun x2 μ3 hμ3 => (zF_some hμ3)))))))))
theorem rX12_settles_n62 {m : gM} {k32 : Int32 → Int32 → gM → Option (Int32 × gM)} (hk32 : ∀ (u0 u1 : Int32) (ν : gM), PP m ν → zF Prod.snd (RB m) (k32 u0 u1 ν)) {y1 y2 : Int32} {μ : gM} (h : PP m μ) : zF Prod.snd (RB m) (fX12_settles_n62 k32 y1 y2 μ) := by
  unfold fX12_settles_n62
  exact (zF_ite (fun _ => (hk32 _ _ _ h)) (fun _ => (zF_bp (rX12_fromPaper  h) (fun x9 μ10 hμ10 => (zF_some hμ10)))))
theorem rX12_settles_l32 {m : gM} : ∀ (n : Nat) (y1 y2 : Int32) (μ : gM), PP m μ → zF Prod.snd (RB m) (fX12_settles_l32  n y1 y2 μ) := by
  intro n
  induction n with
  | zero => intro _ _ μ _; exact zF_none
  | succ n ih =>
    intro y1 y2 μ h
    rw [fX12_settles_l32]
    exact (zF_ite (fun _ => (zF_bp (rX12_fromPaper  h) (fun x4 μ5 hμ5 => (zF_some hμ5)))) (fun _ => (zF_lv (fun x6 => (zF_bm (rX12_tickGoes  h) (fun μ7 hμ7 => (zF_lv (fun x8 => (zF_ite (fun _ => (rX12_settles_n62 ih hμ7)) (fun _ => (rX12_settles_n62 ih hμ7)))))))))))
theorem rX12_settles {m : gM} {μ : gM} (h : RB m μ) : zF Prod.snd (RB m) (fX12_settles μ) := by
  unfold fX12_settles
  exact (zF_lm (RB_up h (by decide) (by decide) (by decide) (Or.inr (by decide))) (fun μ1 hμ1 => (zF_ite (fun _ => (zF_some hμ1)) (fun _ => (zF_bv (fun x2 => (zF_ite (fun _ => (zF_some hμ1)) (fun _ => (zF_bm (rX12_toPaper  hμ1) (fun μ3 hμ3 => (rX12_settles_l32  _ _ _ _ hμ3)))))))))))
theorem rX3_leastWord_l2 {m : gM} : ∀ (n : Nat) (y1 y2 y3 : Int32) (μ : gM), kc m μ → zF Prod.snd (kc m) (fX3_leastWord_l2  n y1 y2 y3 μ) := by
  intro n
  induction n with
  | zero => intro _ _ _ μ _; exact zF_none
  | succ n ih =>
    intro y1 y2 y3 μ h
    rw [fX3_leastWord_l2]
    exact (zF_ite (fun _ => (zF_some h)) (fun _ => (zF_bm (rX3_open  h) (fun μ1 hμ1 => (zF_bm (rX10_tell (by omega) hμ1) (fun μ2 hμ2 => (zF_bm (rX10_run (by omega) hμ2) (fun μ3 hμ3 => (zF_bv (fun x4 => (zF_ite (fun _ => (zF_lv (fun x5 => (ih _ _ _ _ hμ3)))) (fun _ => (zF_some hμ3)))))))))))))
theorem rX3_leastWord {m : gM} {a1 a2 : Int32} {μ : gM} (h : kc m μ) : zF Prod.snd (kc m) (fX3_leastWord a1 a2 μ) := by
  unfold fX3_leastWord
  exact (rX3_leastWord_l2  _ _ _ _ _ h)
theorem rX11_least {m : gM} {a1 a2 : Int32} {μ : gM} (h : kc m μ) : zF Prod.snd (kc m) (fX11_least a1 a2 μ) := by
  unfold fX11_least
  exact (zF_bv (fun x1 => (zF_ite (fun _ => (zF_some h)) (fun _ => (zF_bv (fun x2 => (zF_ite (fun _ => (zF_some h)) (fun _ => (zF_bp (rX3_leastWord  h) (fun x3 μ4 hμ4 => (zF_some hμ4)))))))))))
theorem rX12_least_l32 {m : gM} : ∀ (n : Nat) (y1 y2 y3 : Int32) (μ : gM), PP m μ → zF Prod.snd (RB m) (fX12_least_l32  n y1 y2 y3 μ) := by
  intro n
  induction n with
  | zero => intro _ _ _ μ _; exact zF_none
  | succ n ih =>
    intro y1 y2 y3 μ h
    rw [fX12_least_l32]
    exact (zF_ite (fun _ => (zF_bp (rX12_fromPaper  h) (fun x5 μ6 hμ6 => (zF_some hμ6)))) (fun _ => (zF_bm (rX12_takesFrom  h) (fun μ7 hμ7 => (zF_bv (fun x8 => (zF_ck (zF_lm (PP_up hμ7 (by decide) (by decide) (Or.inl (by decide))) (fun μ10 hμ10 => (zF_bm (rX12_goes  hμ10) (fun μ11 hμ11 => (zF_bv (fun x12 => (zF_ite (fun _ => (zF_lv (fun x13 => (ih _ _ _ _ hμ11)))) (fun _ => (zF_bp (rX12_fromPaper  hμ11) (fun x14 μ15 hμ15 => (zF_some hμ15))))))))))))))))))
theorem rX12_least {m : gM} {a1 a2 : Int32} {μ : gM} (h : RB m μ) : zF Prod.snd (RB m) (fX12_least a1 a2 μ) := by
  unfold fX12_least
  exact (zF_lm (RB_up h (by decide) (by decide) (by decide) (Or.inr (by decide))) (fun μ1 hμ1 => (zF_bv (fun x2 => (zF_ite (fun _ => (zF_some hμ1)) (fun _ => (zF_bv (fun x3 => (zF_ite (fun _ => (zF_some hμ1)) (fun _ => (zF_bm (rX12_toPaper  hμ1) (fun μ4 hμ4 => (rX12_least_l32  _ _ _ _ _ hμ4)))))))))))))
theorem rX3_takesIn {m : gM} {a1 a2 : Int32} {μ : gM} (h : kc m μ) : zF Prod.snd (kc m) (fX3_takesIn a1 a2 μ) := by
  unfold fX3_takesIn
  exact (zF_bm (rX3_open  h) (fun μ1 hμ1 => (zF_bm (rX10_run (by omega) hμ1) (fun μ2 hμ2 => (zF_ck (zF_ck (zF_some hμ2)))))))
theorem rX11_flaps {m : gM} {a1 a2 : Int32} {μ : gM} (h : kc m μ) : zF Prod.snd (kc m) (fX11_flaps a1 a2 μ) := by
  unfold fX11_flaps
  exact (zF_bv (fun x1 => (zF_ite (fun _ => (zF_some h)) (fun _ => (zF_bv (fun x2 => (zF_ite (fun _ => (zF_some h)) (fun _ => (zF_bp (rX3_takesIn  h) (fun x3 μ4 hμ4 => (zF_some hμ4)))))))))))
theorem rX12_flaps {m : gM} {a1 a2 : Int32} {μ : gM} (h : RB m μ) : zF Prod.snd (RB m) (fX12_flaps a1 a2 μ) := by
  unfold fX12_flaps
  exact (zF_lm (RB_up h (by decide) (by decide) (by decide) (Or.inr (by decide))) (fun μ1 hμ1 => (zF_bv (fun x2 => (zF_ite (fun _ => (zF_some hμ1)) (fun _ => (zF_bv (fun x3 => (zF_ite (fun _ => (zF_some hμ1)) (fun _ => (zF_bv (fun x4 => (zF_ite (fun _ => (zF_some hμ1)) (fun _ => (zF_bm (rX12_toPaper  hμ1) (fun μ5 hμ5 => (zF_ck (zF_lv (fun x7 => (zF_bm (rX12_goes  hμ5) (fun μ8 hμ8 => (zF_ck (zF_bp (rX12_fromPaper  hμ8) (fun x10 μ11 hμ11 => (zF_some hμ11)))))))))))))))))))))))))
theorem rX3_holderWithCuts {m : gM} {a1 a2 a3 : Int32} {μ : gM} (h : kc m μ) : zF Prod.snd (kc m) (fX3_holderWithCuts a1 a2 a3 μ) := by
  unfold fX3_holderWithCuts
  exact (zF_bm (rX3_open  h) (fun μ1 hμ1 => (zF_bm (rX10_setCuts (by omega) hμ1) (fun μ2 hμ2 => (zF_bm (rX10_run (by omega) hμ2) (fun μ3 hμ3 => (zF_bv (fun x4 => (zF_some hμ3)))))))))
theorem rX11_needs_l44 {m : gM} : ∀ (n : Nat) (y1 y2 y3 y4 y5 : Int32) (μ : gM), kc m μ → zF Prod.snd (kc m) (fX11_needs_l44  n y1 y2 y3 y4 y5 μ) := by
  intro n
  induction n with
  | zero => intro _ _ _ _ _ μ _; exact zF_none
  | succ n ih =>
    intro y1 y2 y3 y4 y5 μ h
    rw [fX11_needs_l44]
    exact (zF_ite (fun _ => (zF_some h)) (fun _ => (zF_lv (fun x5 => (zF_ite (fun _ => (zF_lv (fun x6 => (ih _ _ _ _ _ _ h)))) (fun _ => (zF_bp (rX3_holderWithCuts  h) (fun x7 μ8 hμ8 => (zF_ite (fun _ => (zF_lv (fun x9 => (ih _ _ _ _ _ _ hμ8)))) (fun _ => (zF_lv (fun x10 => (zF_lv (fun x11 => (ih _ _ _ _ _ _ hμ8)))))))))))))))
theorem rX11_needs {m : gM} {a1 a2 : Int32} {μ : gM} (h : kc m μ) : zF Prod.snd (kc m) (fX11_needs a1 a2 μ) := by
  unfold fX11_needs
  exact (zF_bv (fun x1 => (zF_ite (fun _ => (zF_some h)) (fun _ => (zF_bv (fun x2 => (zF_ite (fun _ => (zF_some h)) (fun _ => (zF_bp (rX3_holderWithCuts  h) (fun x3 μ4 hμ4 => (rX11_needs_l44  _ _ _ _ _ _ _ hμ4)))))))))))
theorem rX12_needs_n111 {m : gM} {k57 : Int32 → Int32 → Int32 → Int32 → Int32 → gM → Option (Int32 × gM)} (hk57 : ∀ (u0 u1 u2 u3 u4 : Int32) (ν : gM), PP m ν → zF Prod.snd (RB m) (k57 u0 u1 u2 u3 u4 ν)) {y1 y2 y3 y5 z0 z1 : Int32} {μ : gM} (h : PP m μ) : zF Prod.snd (RB m) (fX12_needs_n111 k57 y1 y2 y3 y5 z0 z1 μ) := by
  unfold fX12_needs_n111
  exact (zF_bv (fun x14 => (zF_lv (fun x15 => (zF_lv (fun x16 => (hk57 _ _ _ _ _ _ h)))))))
theorem rX12_needs_l57 {m : gM} : ∀ (n : Nat) (y1 y2 y3 y4 y5 : Int32) (μ : gM), PP m μ → zF Prod.snd (RB m) (fX12_needs_l57  n y1 y2 y3 y4 y5 μ) := by
  intro n
  induction n with
  | zero => intro _ _ _ _ _ μ _; exact zF_none
  | succ n ih =>
    intro y1 y2 y3 y4 y5 μ h
    rw [fX12_needs_l57]
    exact (zF_ite (fun _ => (zF_bp (rX12_fromPaper  h) (fun x8 μ9 hμ9 => (zF_some hμ9)))) (fun _ => (zF_bm (rX12_takesFrom  h) (fun μ10 hμ10 => (zF_lm (PP_up hμ10 (by decide) (by decide) (Or.inl (by decide))) (fun μ11 hμ11 => (zF_bm (rX12_goes  hμ11) (fun μ12 hμ12 => (zF_bv (fun x13 => (zF_ite (fun _ => (rX12_needs_n111 ih hμ12)) (fun _ => (rX12_needs_n111 ih hμ12)))))))))))))
theorem rX12_needs {m : gM} {a1 a2 : Int32} {μ : gM} (h : RB m μ) : zF Prod.snd (RB m) (fX12_needs a1 a2 μ) := by
  unfold fX12_needs
  exact (zF_lm (RB_up h (by decide) (by decide) (by decide) (Or.inr (by decide))) (fun μ1 hμ1 => (zF_bv (fun x2 => (zF_ite (fun _ => (zF_some hμ1)) (fun _ => (zF_bv (fun x3 => (zF_ite (fun _ => (zF_some hμ1)) (fun _ => (zF_bv (fun x4 => (zF_ite (fun _ => (zF_some hμ1)) (fun _ => (zF_bm (rX12_toPaper  hμ1) (fun μ5 hμ5 => (zF_bm (rX12_goes  hμ5) (fun μ6 hμ6 => (zF_bv (fun x7 => (rX12_needs_l57  _ _ _ _ _ _ _ hμ6)))))))))))))))))))))
theorem rX3_sentIn {m : gM} {a1 : Int32} {μ : gM} (h : kc m μ) : zF Prod.snd (kc m) (fX3_sentIn a1 μ) := by
  unfold fX3_sentIn
  exact (zF_bm (rX3_openAll  h) (fun μ1 hμ1 => (zF_bm (rX10_run (by omega) hμ1) (fun μ2 hμ2 => (zF_some hμ2)))))
theorem rX11_letters {m : gM} {a1 : Int32} {μ : gM} (h : kc m μ) : zF Prod.snd (kc m) (fX11_letters a1 μ) := by
  unfold fX11_letters
  exact (zF_ite (fun _ => (zF_some h)) (fun _ => (zF_bv (fun x1 => (zF_ite (fun _ => (zF_some h)) (fun _ => (zF_bp (rX3_sentIn  h) (fun x2 μ3 hμ3 => (zF_some hμ3)))))))))
theorem rX12_letters {m : gM} {a1 : Int32} {μ : gM} (h : RB m μ) : zF Prod.snd (RB m) (fX12_letters a1 μ) := by
  unfold fX12_letters
  exact (zF_lm (RB_up h (by decide) (by decide) (by decide) (Or.inr (by decide))) (fun μ1 hμ1 => (zF_ite (fun _ => (zF_some hμ1)) (fun _ => (zF_bv (fun x2 => (zF_ite (fun _ => (zF_some hμ1)) (fun _ => (zF_bv (fun x3 => (zF_ite (fun _ => (zF_some hμ1)) (fun _ => (zF_bm (rX12_toPaper  hμ1) (fun μ4 hμ4 => (zF_lv (fun x5 => (zF_bm (rX12_goes  hμ4) (fun μ6 hμ6 => (zF_bp (rX12_fromPaper  hμ6) (fun x7 μ8 hμ8 => (zF_some hμ8)))))))))))))))))))))
theorem rX3_ticksHeld_l11 {m : gM} : ∀ (n : Nat) (y1 y2 y3 y4 y5 : Int32) (μ : gM), kc m μ → zF Prod.snd (kc m) (fX3_ticksHeld_l11  n y1 y2 y3 y4 y5 μ) := by
  intro n
  induction n with
  | zero => intro _ _ _ _ _ μ _; exact zF_none
  | succ n ih =>
    intro y1 y2 y3 y4 y5 μ h
    rw [fX3_ticksHeld_l11]
    exact (zF_ite (fun _ => (zF_some h)) (fun _ => (zF_bp (rX10_step (by omega) h) (fun x2 μ3 hμ3 => (zF_lv (fun x4 => (zF_lv (fun x5 => (zF_bv (fun x6 => (zF_ite (fun _ => (zF_lv (fun x7 => (ih _ _ _ _ _ _ hμ3)))) (fun _ => (zF_lv (fun x8 => (ih _ _ _ _ _ _ hμ3)))))))))))))))
theorem rX3_ticksHeld {m : gM} {a1 a2 a3 : Int32} {μ : gM} (h : kc m μ) : zF Prod.snd (kc m) (fX3_ticksHeld a1 a2 a3 μ) := by
  unfold fX3_ticksHeld
  exact (zF_bm (rX3_open  h) (fun μ1 hμ1 => (rX3_ticksHeld_l11  _ _ _ _ _ _ _ hμ1)))
theorem rX11_stands {m : gM} {a1 a2 a3 : Int32} {μ : gM} (h : kc m μ) : zF Prod.snd (kc m) (fX11_stands a1 a2 a3 μ) := by
  unfold fX11_stands
  exact (zF_bv (fun x1 => (zF_ite (fun _ => (zF_some h)) (fun _ => (zF_bv (fun x2 => (zF_ite (fun _ => (zF_some h)) (fun _ => (zF_bp (rX3_ticksHeld  h) (fun x3 μ4 hμ4 => (zF_some hμ4)))))))))))
theorem rX12_stands_l46 {m : gM} : ∀ (n : Nat) (y1 y2 y3 y4 y5 : Int32) (μ : gM), PP m μ → zF Prod.snd (RB m) (fX12_stands_l46  n y1 y2 y3 y4 y5 μ) := by
  intro n
  induction n with
  | zero => intro _ _ _ _ _ μ _; exact zF_none
  | succ n ih =>
    intro y1 y2 y3 y4 y5 μ h
    rw [fX12_stands_l46]
    exact (zF_ite (fun _ => (zF_bp (rX12_fromPaper  h) (fun x6 μ7 hμ7 => (zF_some hμ7)))) (fun _ => (zF_bm (rX12_tickGoes  h) (fun μ8 hμ8 => (zF_bv (fun x9 => (zF_bv (fun x10 => (zF_lv (fun x11 => (zF_lv (fun x12 => (ih _ _ _ _ _ _ hμ8)))))))))))))
theorem rX12_stands {m : gM} {a1 a2 a3 : Int32} {μ : gM} (h : RB m μ) : zF Prod.snd (RB m) (fX12_stands a1 a2 a3 μ) := by
  unfold fX12_stands
  exact (zF_lm (RB_up h (by decide) (by decide) (by decide) (Or.inr (by decide))) (fun μ1 hμ1 => (zF_bv (fun x2 => (zF_ite (fun _ => (zF_some hμ1)) (fun _ => (zF_bv (fun x3 => (zF_ite (fun _ => (zF_some hμ1)) (fun _ => (zF_bv (fun x4 => (zF_ite (fun _ => (zF_some hμ1)) (fun _ => (zF_bm (rX12_toPaper  hμ1) (fun μ5 hμ5 => (rX12_stands_l46  _ _ _ _ _ _ _ hμ5)))))))))))))))))
theorem rX3_regainedBehind_n64 {m : gM} {y1 y2 y4 : Int32} {μ : gM} (h : kc m μ) : zF Prod.snd (kc m) (fX3_regainedBehind_n64 y1 y2 y4 μ) := by
  unfold fX3_regainedBehind_n64
  exact (zF_bv (fun x4 => (zF_ite (fun _ => (zF_some h)) (fun _ => (zF_some h)))))
theorem rX3_regainedBehind_l23 {m : gM} : ∀ (n : Nat) (y1 y2 y3 y4 : Int32) (μ : gM), kc m μ → zF Prod.snd (kc m) (fX3_regainedBehind_l23  n y1 y2 y3 y4 μ) := by
  intro n
  induction n with
  | zero => intro _ _ _ _ μ _; exact zF_none
  | succ n ih =>
    intro y1 y2 y3 y4 μ h
    rw [fX3_regainedBehind_l23]
    exact (zF_ite (fun _ => (rX3_regainedBehind_n64  h)) (fun _ => (zF_bv (fun x6 => (zF_ite (fun _ => (zF_bp (rX10_step (by omega) h) (fun x7 μ8 hμ8 => (zF_lv (fun x9 => (ih _ _ _ _ _ hμ8)))))) (fun _ => (rX3_regainedBehind_n64  h)))))))
theorem rX3_regainedBehind {m : gM} {a1 a2 : Int32} {μ : gM} (h : kc m μ) : zF Prod.snd (kc m) (fX3_regainedBehind a1 a2 μ) := by
  unfold fX3_regainedBehind
  exact (zF_bm (rX3_open  h) (fun μ1 hμ1 => (zF_bm (rX10_raise (by omega) hμ1) (fun μ2 hμ2 => (zF_bv (fun x3 => (rX3_regainedBehind_l23  _ _ _ _ _ _ hμ2)))))))
theorem rX11_returns {m : gM} {a1 a2 : Int32} {μ : gM} (h : kc m μ) : zF Prod.snd (kc m) (fX11_returns a1 a2 μ) := by
  unfold fX11_returns
  exact (zF_bv (fun x1 => (zF_ite (fun _ => (zF_some h)) (fun _ => (zF_bv (fun x2 => (zF_ite (fun _ => (zF_bp (rX3_regainedBehind  h) (fun x3 μ4 hμ4 => (zF_some hμ4)))) (fun _ => (zF_some h)))))))))
theorem rX12_returns_n84 {m : gM} {z0 : Int32} {μ : gM} (h : PP m μ) : zF Prod.snd (RB m) (fX12_returns_n84 z0 μ) := by
  unfold fX12_returns_n84
  exact (zF_bp (rX12_fromPaper  h) (fun x8 μ9 hμ9 => (zF_some hμ9)))
theorem rX12_returns_n69 {m : gM} {y1 y2 y3 : Int32} {μ : gM} (h : PP m μ) : zF Prod.snd (RB m) (fX12_returns_n69 y1 y2 y3 μ) := by
  unfold fX12_returns_n69
  exact (zF_bv (fun x7 => (zF_ite (fun _ => (rX12_returns_n84  h)) (fun _ => (rX12_returns_n84  h)))))
theorem rX12_returns_l35 {m : gM} : ∀ (n : Nat) (y1 y2 y3 : Int32) (μ : gM), PP m μ → zF Prod.snd (RB m) (fX12_returns_l35  n y1 y2 y3 μ) := by
  intro n
  induction n with
  | zero => intro _ _ _ μ _; exact zF_none
  | succ n ih =>
    intro y1 y2 y3 μ h
    rw [fX12_returns_l35]
    exact (zF_bv (fun x6 => (zF_ite (fun _ => (zF_ite (fun _ => (rX12_returns_n69  h)) (fun _ => (zF_bv (fun x11 => (zF_ite (fun _ => (rX12_returns_n69  h)) (fun _ => (zF_bm (rX12_tickGoes  h) (fun μ12 hμ12 => (zF_lv (fun x13 => (ih _ _ _ _ hμ12)))))))))))) (fun _ => (rX12_returns_n69  h)))))
theorem rX12_returns {m : gM} {a1 a2 : Int32} {μ : gM} (h : RB m μ) : zF Prod.snd (RB m) (fX12_returns a1 a2 μ) := by
  unfold fX12_returns
  exact (zF_lm (RB_up h (by decide) (by decide) (by decide) (Or.inr (by decide))) (fun μ1 hμ1 => (zF_bv (fun x2 => (zF_ite (fun _ => (zF_some hμ1)) (fun _ => (zF_bv (fun x3 => (zF_ite (fun _ => (zF_bm (rX12_toPaper  hμ1) (fun μ4 hμ4 => (zF_bm (rX12_comesUp  hμ4) (fun μ5 hμ5 => (rX12_returns_l35  _ _ _ _ _ hμ5)))))) (fun _ => (zF_some hμ1)))))))))))
theorem rX11_under_n35 {m : gM} {y1 y2 y3 z0 : Int32} {μ : gM} (h : kc m μ) : zF Prod.snd (kc m) (fX11_under_n35 y1 y2 y3 z0 μ) := by
  unfold fX11_under_n35
  exact (zF_ite (fun _ => (zF_some h)) (fun _ => (zF_bp (rX3_holderWithCuts  h) (fun x2 μ3 hμ3 => (zF_some hμ3)))))
theorem rX11_under {m : gM} {a1 a2 a3 : Int32} {μ : gM} (h : kc m μ) : zF Prod.snd (kc m) (fX11_under a1 a2 a3 μ) := by
  unfold fX11_under
  exact (zF_bv (fun x1 => (zF_ite (fun _ => (rX11_under_n35  h)) (fun _ => (zF_bv (fun x5 => (zF_ite (fun _ => (rX11_under_n35  h)) (fun _ => (zF_bv (fun x6 => (zF_ite (fun _ => (rX11_under_n35  h)) (fun _ => (rX11_under_n35  h)))))))))))))
theorem rX12_under {m : gM} {a1 a2 a3 : Int32} {μ : gM} (h : RB m μ) : zF Prod.snd (RB m) (fX12_under a1 a2 a3 μ) := by
  unfold fX12_under
  exact (zF_lm (RB_up h (by decide) (by decide) (by decide) (Or.inr (by decide))) (fun μ1 hμ1 => (zF_bv (fun x2 => (zF_ite (fun _ => (zF_some hμ1)) (fun _ => (zF_bv (fun x3 => (zF_ite (fun _ => (zF_some hμ1)) (fun _ => (zF_bv (fun x4 => (zF_ite (fun _ => (zF_some hμ1)) (fun _ => (zF_bv (fun x5 => (zF_ite (fun _ => (zF_some hμ1)) (fun _ => (zF_bm (rX12_toPaper  hμ1) (fun μ6 hμ6 => (zF_lm (PP_up hμ6 (by decide) (by decide) (Or.inl (by decide))) (fun μ7 hμ7 => (zF_bm (rX12_goes  hμ7) (fun μ8 hμ8 => (zF_bv (fun x9 => (zF_bp (rX12_fromPaper  hμ8) (fun x10 μ11 hμ11 => (zF_some hμ11)))))))))))))))))))))))))))))
