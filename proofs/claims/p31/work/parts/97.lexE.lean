/-! both read the same -/
def SIM (b : Nat → Nat) (n s : Nat) (g : Int) (μ ξ : gM) : Prop := CT b n μ ∧ CS b n s g μ ∧ OWN μ ∧ MT b n ξ ∧ (∃ p : Nat, (ξ 267 4).toInt = p ∧ p ≤ n ∧ Skp b n p s ∧ (ξ 267 5).toInt ≤ p) ∧ ((s : Int) = g ↔ (ξ 267 5).toInt = s) ∧ ξ 267 6 = 0
/-- where the reference stands in the text, fault or not -/
def MP (b : Nat → Nat) (n : Nat) (ξ : gM) : Prop := MT b n ξ ∧ ∃ p : Nat, (ξ 267 4).toInt = p ∧ p ≤ n
/-- a fault, the same in both -/
def FLT (b : Nat → Nat) (n : Nat) (μ ξ : gM) : Prop := μ 1 7 = ξ 267 6 ∧ μ 1 8 = ξ 267 7 ∧ ξ 267 6 ≠ 0 ∧ MP b n ξ
/-- the class's cells but what the reader changes of its own -/
def CF (μ ν : gM) : Prop := (∀ a, a ≠ 1 → ν a = μ a) ∧ ν 1 2 = μ 1 2
theorem LF.cf {μ ν : gM} (h : LF μ ν) : CF μ ν := ⟨h.1, h.2.1⟩
theorem CF.tr {μ ν ξ : gM} (h : CF μ ν) (g : CF ν ξ) : CF μ ξ := ⟨fun a ha => (g.1 a ha).trans (h.1 a ha), g.2.trans h.2⟩
theorem CF.rf (μ : gM) : CF μ μ := ⟨fun _ _ => rfl, rfl⟩
theorem SIM.gw {b : Nat → Nat} {n s : Nat} {g : Int} {μ ξ : gM} (h : SIM b n s g μ ξ) (e : Nat) : WAt b n s g e ↔ WAt b n s (ξ 267 5).toInt e := by
  have q := h.2.2.2.2.2.1
  unfold WAt
  constructor
  · rintro ⟨a1, a2, a3, a4, a5⟩
    exact ⟨a1, a2, a3, a4, fun w => a5 (q.mpr w.symm)⟩
  · rintro ⟨a1, a2, a3, a4, a5⟩
    exact ⟨a1, a2, a3, a4, fun w => a5 (q.mp w).symm⟩
theorem SIM.gd {b : Nat → Nat} {n s : Nat} {g : Int} {μ ξ : gM} (h : SIM b n s g μ ξ) (k : Nat) : WD b n s g k ↔ WD b n s (ξ 267 5).toInt k := by
  unfold WD
  rw [h.gw]
theorem mPass {s l : Nat} {ξ : gM} (ha : (ξ 267 4).toInt = s) (hl : (ξ 267 11).toInt = l) (hb : s + l ≤ 1500) : zH (fX12_pass ξ) (fun ζ => (ζ 267 4).toInt = ((s + l : Nat) : Int) ∧ (ζ 267 5).toInt = ((s + l : Nat) : Int) ∧ MF (fun i => i = 4 ∨ i = 5) ξ ζ) := by
  unfold fX12_pass
  have q := iA ha hl (by omega) (by omega)
  refine zH_lt (fun μ1 e1 => ?_)
  refine zH_lt (fun μ2 e2 => ?_)
  have a1 : (μ1 267 4).toInt = ((s + l : Nat) : Int) := by rw [e1, zUp_same, q]; omega
  refine zH_some ⟨by rw [e2, zUp_slot _ (by decide)]; exact a1, by rw [e2, zUp_same]; exact a1, ?_⟩
  rw [e2, e1]
  exact (MF.up _ (Or.inl rfl)).tr (MF.up _ (Or.inr rfl)) (fun _ w => w) (fun _ w => w)
/-- behind a word or a number -/
theorem SIM.adv {b : Nat → Nat} {n e : Nat} {μ ζ : gM} (hc : CT b n μ) (ho : OWN μ) (ha : (μ 1 3).toInt = e) (hn : e ≤ n) (hk : μ 1 4 = 1 ∨ μ 1 4 = 2) (hm : MT b n ζ) (h4 : (ζ 267 4).toInt = e) (h5 : (ζ 267 5).toInt = e) (hb : ζ 267 6 = 0) : zH (fX7_advance μ) (fun ν => LF μ ν ∧ ∃ s g, SIM b n s g ν ζ) := by
  refine zH_mono (cAdvance hc ha hn) (fun ν p => ?_)
  obtain ⟨s, k1, k2, k3⟩ := p
  refine ⟨k3, s, _, hc.lf k3, k2, ⟨fun k hk => by rw [k3.1 3 (by decide)]; exact ho.1 k hk, by rw [k3.2.2.1]; exact ho.2.1, by rw [k3.2.2.2]; exact ho.2.2⟩, hm, ⟨e, h4, hn, k1, by omega⟩, ?_, hb⟩
  unfold glue
  rw [if_pos hk, h5]
  omega
/-- the same place, looked at -/
theorem SIM.look {b : Nat → Nat} {n s : Nat} {g : Int} {μ ξ ζ : gM} {P : Nat → Prop} (h : SIM b n s g μ ξ) (f : MF P ξ ζ) (h3 : ¬ P 3) (h5 : ¬ P 5) (h6 : ¬ P 6) (h4 : (ζ 267 4).toInt = s) : SIM b n s g μ ζ := by
  obtain ⟨c1, c2, c3, c4, ⟨p, q1, q2, q3, q4⟩, c6, c7⟩ := h
  refine ⟨c1, c2, c3, c4.mf f h3, ⟨s, h4, q3.2.1, ⟨Nat.le_refl _, q3.2.1, fun i a d => absurd d (by omega), q3.2.2.2⟩, ?_⟩, by rw [f.2 5 h5]; exact c6, by rw [f.2 6 h6]; exact c7⟩
  rw [f.2 5 h5]
  have := q3.1
  omega
theorem pTakes {b : Nat → Nat} {n s k : Nat} {g : Int} {μ ξ : gM} {a w : Int32} (hk : k < 21) (ha : a = nI k) (hw : w = Wm k) (h : SIM b n s g μ ξ) : ∃ (v : Int32) (μ' ξ' : gM), fX7_passIfThere a μ = some (v, μ') ∧ fX12_takes w ξ = some (v, ξ') ∧ (v = 0 ∨ v = 1) ∧ LF μ μ' ∧ MF pF ξ ξ' ∧ ∃ s' g', SIM b n s' g' μ' ξ' := by
  subst ha hw
  have hn5 := h.1.2.1
  obtain ⟨p, q1, q2, q3, q4⟩ := h.2.2.2.2.1
  obtain ⟨v, ev, pv⟩ := cOwn h.2.1 h.2.2.1
  obtain ⟨⟨x1, ξ2⟩, e2, p2⟩ := mIsWord hk h.2.2.2.1 q1 q2 h.2.2.2.2.2.2
  obtain ⟨t, k1, k2, k3, k4⟩ := p2
  have k2 : (ξ2 267 4).toInt = t := k2
  have k3 : MF pW ξ ξ2 := k3
  have et : t = s := Skp.uniq k1 q3
  subst et
  unfold fX7_passIfThere fX12_takes
  rw [ev, e2, zBd_some, zBp_some]
  rcases k4 with ⟨w1, w2, w3⟩ | ⟨w1, w2⟩
  · have w2 : x1 = 1 := w2
    have w3 : (ξ2 267 11).toInt = wl k := w3
    have wd : WD b n t g k := (h.gd k).mpr w1
    have evk : v = nI k := by
      rcases pv with ⟨j, hj, u1, u2⟩ | ⟨u1, u2⟩
      · rw [u1, WD.uniq hj hk u2 wd]
      · exact absurd wd (u2 k hk)
    rw [if_pos evk, w2, if_neg (show ¬ (1 : Int32) = 0 by decide)]
    have hle : t + wl k ≤ n := wd.1.2.2.1.2.1
    obtain ⟨ζ, eζ, z1, z2, z3⟩ := mPass k2 w3 (by omega)
    have fζ : MF pF ξ ζ := k3.tr z3 (fun i w => by unfold pW at w; unfold pF; omega) (fun i w => by unfold pF; omega)
    rcases h.2.1.word with ⟨e, u1, u2, u3, u4⟩ | ⟨u1, u2⟩
    · have ee : e = t + wl k := u1.uniq wd.1
      subst ee
      obtain ⟨ν, eν, l1, l2⟩ := SIM.adv h.1 h.2.2.1 u4 hle (Or.inl u2) (h.2.2.2.1.mf fζ (by unfold pF; omega)) z1 z2 (by rw [z3.2 6 (by decide), k3.2 6 (by unfold pW; omega)]; exact h.2.2.2.2.2.2)
      refine ⟨1, ν, ζ, by rw [eν]; rfl, by rw [eζ]; rfl, Or.inr rfl, l1, fζ, l2⟩
    · exact absurd wd.1 (u1 _)
  · have w2 : x1 = 0 := w2
    have wd : ¬ WD b n t g k := fun d => w1 ((h.gd k).mp d)
    have evk : ¬ v = nI k := fun q => by
      rcases pv with ⟨j, hj, u1, u2⟩ | ⟨u1, u2⟩
      · rw [u1] at q
        have := nI_inj (by omega) (by omega) q
        subst this
        exact wd u2
      · rw [u1] at q
        have t1 := congrArg Int32.toInt q
        rw [nI_toInt (by omega)] at t1
        have : (-1 : Int32).toInt = -1 := rfl
        omega
    rw [if_neg evk, w2, if_pos rfl]
    exact ⟨0, μ, ξ2, rfl, rfl, Or.inl rfl, LF.rf _, k3.tr (MF.rf (P := pF) _) (fun i w => by unfold pW at w; unfold pF; omega) (fun _ w => w), t, g, h.look k3 (by unfold pW; omega) (by unfold pW; omega) (by unfold pW; omega) k2⟩
/-- the class tells a fault -/
theorem cRefuse {k p : Int32} {μ : gM} : ∃ ν, fX7_refuse k p μ = some (0, ν) ∧ ν 1 7 = k ∧ ν 1 8 = p ∧ CF μ ν := by
  unfold fX7_refuse
  refine ⟨gUp (gUp μ 1 7 k) 1 8 p, rfl, by rw [zUp_slot _ (by decide), zUp_same], zUp_same _ _ _ _, fun a ha => by rw [zUp_ne _ ha, zUp_ne _ ha], by rw [zUp_slot _ (by decide), zUp_slot _ (by decide)]⟩
theorem i_eq {x y : Int32} {m : Nat} (hx : x.toInt = m) (hy : y.toInt = m) : x = y := Int32.toInt_inj.mp (hx.trans hy.symm)
theorem pAsks {b : Nat → Nat} {n s k : Nat} {g : Int} {μ ξ : gM} {a w : Int32} (hk : k < 21) (ha : a = nI k) (hw : w = Wm k) (h : SIM b n s g μ ξ) : ∃ (v : Int32) (μ' ξ' : gM), fX7_pass a μ = some (v, μ') ∧ fX12_asks w ξ = some ξ' ∧ CF μ μ' ∧ MF pF ξ ξ' ∧ ((v = 1 ∧ ∃ s' g', SIM b n s' g' μ' ξ') ∨ (v = 0 ∧ FLT b n μ' ξ')) := by
  obtain ⟨v, μ1, ξ1, e1, e2, hv, l1, l2, s1, g1, h1⟩ := pTakes hk ha hw h
  have b0 := h.2.2.2.2.2.2
  unfold fX12_asks
  rw [mFine1 b0, zBd_some, if_neg (show ¬ (1 : Int32) = 0 by decide), e2, zBp_some]
  obtain ⟨x, ex, -⟩ := cOwn h.2.1 h.2.2.1
  unfold fX7_passIfThere at e1
  unfold fX7_pass
  rw [ex, zBd_some] at e1 ⊢
  by_cases c : x = a
  · rw [if_pos c] at e1 ⊢
    have ev : v = 1 := by
      obtain ⟨ν, q1, q2⟩ := zBd_s e1
      cases q2
      rfl
    rw [ev, if_neg (show ¬ (1 : Int32) = 0 by decide)]
    exact ⟨1, μ1, ξ1, by rw [e1, ev], rfl, l1.cf, l2, Or.inl ⟨rfl, s1, g1, h1⟩⟩
  · rw [if_neg c] at e1 ⊢
    cases e1
    rw [if_pos rfl]
    obtain ⟨p, q1, q2, q3, q4⟩ := h1.2.2.2.2.1
    obtain ⟨ζ, eζ, t, k1, k2, k3, k4, k5⟩ := mUnlike h1.2.2.2.1 q1 q2 h1.2.2.2.2.2.2
    have et : t = s1 := Skp.uniq k1 q3
    obtain ⟨ν, r1, r2, r3, r4⟩ := cRefuse (k := 1) (p := μ 1 5) (μ := μ)
    rw [r1, eζ, zBp_some]
    refine ⟨0, ν, ζ, rfl, rfl, r4, l2.tr k4 (fun _ w => w) (fun _ w => w), Or.inr ⟨rfl, ?_, ?_, by rw [k2]; decide, h1.2.2.2.1.mf k4 (by unfold pF; omega), t, k5, k1.2.1⟩⟩
    · rw [r2, k2]
    · rw [r3]
      exact i_eq h1.2.1.1 (by rw [k3, et])
