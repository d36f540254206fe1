/-! how far a text is read -/
theorem zHu {α : Type} {x : Option α} {Q : α → Prop} {r : α} (h : zH x Q) (e : x = some r) : Q r := by
  obtain ⟨a, ea, q⟩ := h
  rw [e] at ea
  obtain rfl := Option.some.inj ea
  exact q
theorem SB.rf (ξ : gM) : SB ξ ξ := id
theorem SB.c {ξ ζ : gM} (h : SB ξ ζ) : ζ 267 6 = 0 → ξ 267 6 = 0 := fun w => Classical.byContradiction (fun n => h n w)
theorem LX.rf (ξ : gM) : LX ξ ξ := fun _ _ => rfl
def nTP (ξ : gM) : Prop := ∃ (b : Nat → Nat) (n p : Nat), MT b n ξ ∧ (ξ 267 4).toInt = p ∧ p ≤ n ∧ (ξ 267 5).toInt ≤ p
def nPh (ξ : gM) : Int := (ξ 267 4).toInt + (if (ξ 267 5).toInt = (ξ 267 4).toInt then 1 else 0)
def nPG (k : Nat) (ξ ζ : gM) : Prop := (ζ 267 6 = 0 → ξ 267 6 = 0) ∧ (nTP ξ → ζ 267 6 = 0 → nTP ζ ∧ nPh ξ + (k : Int) ≤ nPh ζ)
theorem nPG.tr {a b : Nat} {ξ ζ χ : gM} (h : nPG a ξ ζ) (g : nPG b ζ χ) : nPG (a + b) ξ χ := ⟨fun w => h.1 (g.1 w), fun t w => by
  obtain ⟨t1, q1⟩ := h.2 t (g.1 w)
  obtain ⟨t2, q2⟩ := g.2 t1 w
  exact ⟨t2, by omega⟩⟩
theorem nPG.rf (ξ : gM) : nPG 0 ξ ξ := ⟨id, fun t _ => ⟨t, by omega⟩⟩
theorem nPG.bad {k : Nat} {ξ ζ : gM} (h : ζ 267 6 ≠ 0) : nPG k ξ ζ := ⟨fun w => absurd w h, fun _ w => absurd w h⟩
theorem nPG.le {a b : Nat} {ξ ζ : gM} (h : nPG a ξ ζ) (l : b ≤ a) : nPG b ξ ζ := ⟨h.1, fun t w => by
  obtain ⟨t1, q1⟩ := h.2 t w
  exact ⟨t1, by omega⟩⟩
def nWS (l : Nat) (ξ : gM) : Prop := ∃ (b : Nat → Nat) (n s : Nat), MT b n ξ ∧ (ξ 267 4).toInt = s ∧ (ξ 267 11).toInt = l ∧ s + l ≤ n ∧ (ξ 267 5).toInt < s
theorem nPh_mv {ξ ζ : gM} (h5 : (ζ 267 5).toInt = (ξ 267 5).toInt) (ha : (ξ 267 4).toInt ≤ (ζ 267 4).toInt) (he : (ξ 267 5).toInt ≤ (ξ 267 4).toInt) : nPh ξ ≤ nPh ζ := by
  unfold nPh
  rw [h5]
  split <;> split <;> omega
theorem nPh_at (ξ : gM) : (ξ 267 4).toInt ≤ nPh ξ ∧ nPh ξ ≤ (ξ 267 4).toInt + 1 := by
  unfold nPh
  split <;> omega
theorem nFailK {k p : Int32} {ξ ζ : gM} (hk : k ≠ 0) (e : fX12_fail k p ξ = some ζ) : ζ 267 6 ≠ 0 := by
  unfold fX12_fail at e
  by_cases c : ξ 267 6 = 0
  · rw [if_pos c, zLt_eq, zLt_eq] at e
    obtain rfl := Option.some.inj e
    rw [zUp_slot _ (by decide), zUp_same]
    exact hk
  · rw [if_neg c] at e
    obtain rfl := Option.some.inj e
    exact c
theorem nNext {v : Int32} {ξ ζ : gM} (e : fX12_next ξ = some (v, ζ)) (t : nTP ξ) : nTP ζ ∧ nPh ξ ≤ nPh ζ ∧ (ξ 267 4).toInt ≤ (ζ 267 4).toInt ∧ ζ 267 5 = ξ 267 5 ∧ ζ 267 6 = ξ 267 6 ∧ v.toInt = (ζ 267 4).toInt ∧ ζ 267 3 = ξ 267 3 := by
  obtain ⟨b, n, p, h, ha, hn, he⟩ := t
  obtain ⟨s, sk, e1, e2, mf⟩ := zHu (mNext h ha hn) e
  have e5 : ζ 267 5 = ξ 267 5 := mf.2 5 (by unfold p4; decide)
  have e2 : (ζ 267 4).toInt = s := e2
  have ps := sk.1
  refine ⟨⟨b, n, s, h.mf mf (by unfold p4; decide), e2, sk.2.1, by rw [e5]; omega⟩, nPh_mv (by rw [e5]) (by omega) (by omega), by omega, e5, mf.2 6 (by unfold p4; decide), e1.trans e2.symm, mf.2 3 (by unfold p4; decide)⟩
theorem nUnl {ξ ζ : gM} (e : fX12_unlike ξ = some ζ) : ζ 267 6 ≠ 0 := by
  unfold fX12_unlike at e
  obtain ⟨x, μ2, e1, e2⟩ := bpI e
  obtain ⟨μ3, e3, e4⟩ := bdI e2
  obtain rfl := Option.some.inj e4
  exact nFailK (by decide) e3
theorem nIsW {k : Nat} {w v : Int32} {ξ ζ : gM} (hk : k < 21) (hw : w = Wm k) (e : fX12_isWord w ξ = some (v, ζ)) : nPG 0 ξ ζ ∧ (v ≠ 0 → nTP ξ → ζ 267 6 = 0 → nWS (wl k) ζ) := by
  subst hw
  have st : ζ 267 6 = 0 → ξ 267 6 = 0 := SB.c (bX12_isWord (SB.rf ξ) _ e)
  have all : nTP ξ → ζ 267 6 = 0 → (nTP ζ ∧ nPh ξ ≤ nPh ζ) ∧ (v ≠ 0 → nWS (wl k) ζ) := fun t w => by
    obtain ⟨b, n, p, h, ha, hn, he⟩ := t
    obtain ⟨s, sk, e1, mf, alt⟩ := zHu (mIsWord hk h ha hn (st w)) e
    have e1 : (ζ 267 4).toInt = s := e1
    have mf : MF pW ξ ζ := mf
    have e5 : ζ 267 5 = ξ 267 5 := mf.2 5 (by unfold pW; decide)
    have ps := sk.1
    have mt := h.mf mf (by unfold pW; decide)
    refine ⟨⟨⟨b, n, s, mt, e1, sk.2.1, by rw [e5]; omega⟩, nPh_mv (by rw [e5]) (by omega) (by omega)⟩, fun nz => ?_⟩
    rcases alt with ⟨wd, -, e11⟩ | ⟨-, z⟩
    · have e11 : (ζ 267 11).toInt = wl k := e11
      obtain ⟨-, -, rn, -, ng⟩ := wd.1
      exact ⟨b, n, s, mt, e1, e11, rn.2.1, by rw [e5]; omega⟩
    · exact absurd z nz
  exact ⟨⟨st, fun t w => ⟨(all t w).1.1, by have := (all t w).1.2; omega⟩⟩, fun nz t w => (all t w).2 nz⟩
theorem nIsN {v : Int32} {ξ ζ : gM} (e : fX12_isName ξ = some (v, ζ)) : nPG 0 ξ ζ ∧ (v ≠ 0 → nTP ξ → ζ 267 6 = 0 → ∃ l, 1 ≤ l ∧ nWS l ζ) := by
  have st : ζ 267 6 = 0 → ξ 267 6 = 0 := SB.c (bX12_isName (SB.rf ξ) _ e)
  have all : nTP ξ → ζ 267 6 = 0 → (nTP ζ ∧ nPh ξ ≤ nPh ζ) ∧ (v ≠ 0 → ∃ l, 1 ≤ l ∧ nWS l ζ) := fun t w => by
    obtain ⟨b, n, p, h, ha, hn, he⟩ := t
    obtain ⟨s, sk, e1, mf, alt⟩ := zHu (mIsName h ha hn (st w)) e
    have e1 : (ζ 267 4).toInt = s := e1
    have mf : MF pW ξ ζ := mf
    have e5 : ζ 267 5 = ξ 267 5 := mf.2 5 (by unfold pW; decide)
    have ps := sk.1
    have mt := h.mf mf (by unfold pW; decide)
    refine ⟨⟨⟨b, n, s, mt, e1, sk.2.1, by rw [e5]; omega⟩, nPh_mv (by rw [e5]) (by omega) (by omega)⟩, fun nz => ?_⟩
    rcases alt with ⟨e', na, -, e11, -⟩ | ⟨-, z⟩
    · have e11 : (ζ 267 11).toInt = ((e' - s : Nat) : Int) := e11
      obtain ⟨sn, il, rn, -, ng⟩ := na.1
      have ps2 := rn.pos sn il
      exact ⟨e' - s, by omega, b, n, s, mt, e1, e11, by have := rn.2.1; omega, by rw [e5]; omega⟩
    · exact absurd z nz
  exact ⟨⟨st, fun t w => ⟨(all t w).1.1, by have := (all t w).1.2; omega⟩⟩, fun nz t w => (all t w).2 nz⟩
theorem nPassW {l : Nat} {ξ ζ : gM} (e : fX12_pass ξ = some ζ) (w : nWS l ξ) : nTP ζ ∧ nPh ξ + (l : Int) + 1 ≤ nPh ζ ∧ ζ 267 6 = ξ 267 6 := by
  obtain ⟨b, n, s, h, ha, hl, hn, he⟩ := w
  have n15 := h.2.1
  obtain ⟨e1, e2, mf⟩ := zHu (mPass ha hl (by omega)) e
  have mt : MT b n ζ := h.mf mf (by decide)
  refine ⟨⟨b, n, s + l, mt, e1, hn, by omega⟩, ?_, mf.2 6 (by decide)⟩
  unfold nPh
  rw [if_neg (show ¬ (ξ 267 5).toInt = (ξ 267 4).toInt by omega), if_pos (show (ζ 267 5).toInt = (ζ 267 4).toInt from e2.trans e1.symm)]
  have e1 : (ζ 267 4).toInt = ((s + l : Nat) : Int) := e1
  omega
theorem nTakes {k : Nat} {w v : Int32} {ξ ζ : gM} (hk : k < 21) (hw : w = Wm k) (e : fX12_takes w ξ = some (v, ζ)) : (v = 0 ∧ nPG 0 ξ ζ) ∨ (v ≠ 0 ∧ nPG (wl k + 1) ξ ζ) := by
  have st : ζ 267 6 = 0 → ξ 267 6 = 0 := SB.c (bX12_takes (SB.rf ξ) _ e)
  unfold fX12_takes at e
  obtain ⟨x1, μ2, e1, e2⟩ := bpI e
  obtain ⟨p1, p2⟩ := nIsW hk hw e1
  by_cases c : x1 = 0
  · rw [if_pos c] at e2
    obtain ⟨rfl, rfl⟩ := Prod.mk.inj (Option.some.inj e2)
    exact Or.inl ⟨rfl, p1⟩
  · rw [if_neg c] at e2
    obtain ⟨μ3, e3, e4⟩ := bdI e2
    obtain ⟨rfl, rfl⟩ := Prod.mk.inj (Option.some.inj e4)
    refine Or.inr ⟨by decide, st, fun t w => ?_⟩
    have w2 : μ2 267 6 = 0 := SB.c (bX12_pass (SB.rf μ2) _ e3) w
    obtain ⟨t2, q2⟩ := p1.2 t w2
    obtain ⟨t3, q3, -⟩ := nPassW e3 (p2 c t w2)
    exact ⟨t3, by omega⟩
theorem nFine {ξ : gM} {v : Int32} (e : fX12_isFine ξ = some v) : (v = 0 ∧ ξ 267 6 ≠ 0) ∨ (v ≠ 0 ∧ ξ 267 6 = 0) := by
  by_cases c : ξ 267 6 = 0
  · rw [mFine1 c] at e
    obtain rfl := Option.some.inj e
    exact Or.inr ⟨by decide, c⟩
  · rw [mFine0 c] at e
    obtain rfl := Option.some.inj e
    exact Or.inl ⟨rfl, c⟩
theorem nAsks {k : Nat} {w : Int32} {ξ ζ : gM} (hk : k < 21) (hw : w = Wm k) (e : fX12_asks w ξ = some ζ) : nPG (wl k + 1) ξ ζ := by
  unfold fX12_asks at e
  obtain ⟨v, e1, e2⟩ := bdI e
  rcases nFine e1 with ⟨rfl, c⟩ | ⟨c, -⟩
  · rw [if_pos rfl] at e2
    obtain rfl := Option.some.inj e2
    exact nPG.bad c
  · rw [if_neg c] at e2
    obtain ⟨x2, μ3, e3, e4⟩ := bpI e2
    by_cases c2 : x2 = 0
    · rw [if_pos c2] at e4
      obtain ⟨μ4, e5, e6⟩ := bdI e4
      obtain rfl := Option.some.inj e6
      exact nPG.bad (nUnl e5)
    · rw [if_neg c2] at e4
      obtain rfl := Option.some.inj e4
      rcases nTakes hk hw e3 with ⟨z, -⟩ | ⟨-, q⟩
      · exact absurd z c2
      · exact q
theorem nNum {lo hi v : Int32} {ξ ζ : gM} (e : fX12_number lo hi ξ = some (v, ζ)) : nPG 2 ξ ζ := by
  have st : ζ 267 6 = 0 → ξ 267 6 = 0 := SB.c (bX12_number (SB.rf ξ) _ e)
  refine ⟨st, fun t w => ?_⟩
  obtain ⟨b, n, p, h, ha, hn, he⟩ := t
  obtain ⟨s, sk, e', rn, alt⟩ := zHu (mNumber h ha hn (st w)) e
  have ps := sk.1
  rcases alt with ⟨⟨a1, a2, a3⟩, q1, q2, q3, -, mf⟩ | ⟨-, z, -⟩
  · have q2 : (ζ 267 4).toInt = e' := q2
    have q3 : (ζ 267 5).toInt = e' := q3
    have mf : MF pF ξ ζ := mf
    refine ⟨⟨b, n, e', h.mf mf (by unfold pF; decide), q2, rn.2.1, by omega⟩, ?_⟩
    unfold nPh
    rw [if_pos (show (ζ 267 5).toInt = (ζ 267 4).toInt by omega)]
    split <;> omega
  · have z : ζ 267 6 = 1 := z
    rw [w] at z
    exact absurd z (by decide)
theorem nNameOf {p1 : Nat} {y1 y2 v : Int32} {ξ : gM} : ∀ (m : Nat) (y3 : Int32), 0 ≤ y3.toInt → fX12_nameOf_l2 p1 m y1 y2 y3 ξ = some v → v = -1 ∨ (0 ≤ v.toInt ∧ v.toInt < (ξ p1 ((0 : Int32) + y1).toNatClampNeg).toInt) := by
  intro m
  induction m with
  | zero => intro y3 _ e; exact nomatch e
  | succ m ih =>
    intro y3 h0 e
    rw [fX12_nameOf_l2] at e
    have e := ckI e
    by_cases c : ξ p1 ((0 : Int32) + y1).toNatClampNeg ≤ y3
    · rw [if_pos c] at e
      obtain rfl := Option.some.inj e
      exact Or.inl rfl
    · rw [if_neg c] at e
      have c' : y3.toInt < (ξ p1 ((0 : Int32) + y1).toNatClampNeg).toInt := by
        have : ¬ (ξ p1 ((0 : Int32) + y1).toNatClampNeg).toInt ≤ y3.toInt := fun w => c (Int32.le_iff_toInt_le.mpr w)
        omega
      have e := ckI e
      split at e
      · obtain rfl := Option.some.inj e
        exact Or.inr ⟨h0, c'⟩
      · rw [zLt_eq] at e
        have l := Int32.toInt_lt (ξ p1 ((0 : Int32) + y1).toNatClampNeg)
        exact ih (y3 + 1) (by rw [iA rfl (iL (1) (1) rfl) (by omega) (by omega)]; omega) e
theorem nOne26 {p1 : Nat} {y2 v : Int32} {ξ ζ : gM} (e : fX12_oneRead_n26 p1 y2 ξ = some (v, ζ)) (w : ζ 267 6 = 0) : fX12_pass ξ = some ζ ∧ 0 ≤ v.toInt ∧ v.toInt < (ξ p1 ((0 : Int32) + y2).toNatClampNeg).toInt := by
  unfold fX12_oneRead_n26 at e
  obtain ⟨x, e1, e2⟩ := bdI e
  rcases nFine e1 with ⟨rfl, c⟩ | ⟨c, -⟩
  · rw [if_pos rfl] at e2
    obtain ⟨rfl, rfl⟩ := Prod.mk.inj (Option.some.inj e2)
    exact absurd w c
  · rw [if_neg c] at e2
    obtain ⟨x6, e3, e4⟩ := bdI e2
    by_cases c6 : x6 = -1
    · rw [if_pos c6] at e4
      obtain ⟨μ8, e5, e6⟩ := bdI e4
      obtain ⟨rfl, rfl⟩ := Prod.mk.inj (Option.some.inj e6)
      exact absurd w (nFailK (by decide) e5)
    · rw [if_neg c6] at e4
      obtain ⟨μ7, e5, e6⟩ := bdI e4
      obtain ⟨rfl, rfl⟩ := Prod.mk.inj (Option.some.inj e6)
      unfold fX12_nameOf at e3
      rcases nNameOf _ _ (by decide) e3 with z | z
      · exact absurd z c6
      · exact ⟨e5, z⟩
/-- one that is told -/
theorem nOne {p1 : Nat} {y2 v : Int32} {ξ ζ : gM} (hp : p1 ≠ 267) (e : fX12_oneRead p1 y2 ξ = some (v, ζ)) : nPG 2 ξ ζ ∧ (ζ 267 6 = 0 → 0 ≤ v.toInt ∧ v.toInt < (ξ p1 ((0 : Int32) + y2).toNatClampNeg).toInt) := by
  have st : ζ 267 6 = 0 → ξ 267 6 = 0 := SB.c (bX12_oneRead (SB.rf ξ) _ e)
  unfold fX12_oneRead at e
  obtain ⟨x1, μ2, e1, e2⟩ := bpI e
  rw [zLt_eq] at e2
  obtain ⟨x4, e4, e5⟩ := bdI e2
  have l2 : LX ξ μ2 := lX12_next (LX.rf ξ) _ e1
  have o16 : ∀ a, a ≠ 267 → gUp μ2 267 16 x1 a = ξ a := fun a ha => by rw [zUp_ne _ ha]; exact l2 a ha
  rcases nFine e4 with ⟨rfl, c⟩ | ⟨c, c6⟩
  · rw [if_pos rfl] at e5
    have bad : ζ 267 6 ≠ 0 := bX12_oneRead_n26 (SB.rf _) _ e5 c
    exact ⟨nPG.bad bad, fun w => absurd w bad⟩
  · rw [if_neg c] at e5
    obtain ⟨x11, μ12, e6, e7⟩ := bpI e5
    obtain ⟨p1', p2'⟩ := nIsN e6
    have l12 : LX ξ μ12 := fun a ha => (lX12_isName (LX.rf _) _ e6 a ha).trans (o16 a ha)
    by_cases c11 : x11 = 0
    · rw [if_pos c11] at e7
      obtain ⟨μ13, e8, e9⟩ := bdI e7
      have bad : ζ 267 6 ≠ 0 := bX12_oneRead_n26 (SB.rf _) _ e9 (nUnl e8)
      exact ⟨nPG.bad bad, fun w => absurd w bad⟩
    · rw [if_neg c11] at e7
      refine ⟨⟨st, fun t w => ?_⟩, fun w => ?_⟩
      · obtain ⟨e8, -⟩ := nOne26 e7 w
        have w12 : μ12 267 6 = 0 := SB.c (bX12_pass (SB.rf μ12) _ e8) w
        obtain ⟨t2, q2, -, -, -, -, -⟩ := nNext e1 t
        have t2' : nTP (gUp μ2 267 16 x1) ∧ nPh (gUp μ2 267 16 x1) = nPh μ2 := by
          obtain ⟨b, n, p, h, ha, hn, he⟩ := t2
          refine ⟨⟨b, n, p, ⟨by rw [zUp_slot _ (by decide)]; exact h.1, h.2.1, fun i hi => by rw [zUp_ne _ (by decide)]; exact h.2.2 i hi⟩, by rw [zUp_slot _ (by decide)]; exact ha, hn, by rw [zUp_slot _ (by decide)]; exact he⟩, ?_⟩
          unfold nPh
          rw [zUp_slot _ (by decide), zUp_slot _ (by decide)]
        obtain ⟨t3, q3⟩ := p1'.2 t2'.1 w12
        obtain ⟨l, l1, ws⟩ := p2' c11 t2'.1 w12
        obtain ⟨t4, q4, -⟩ := nPassW e8 ws
        exact ⟨t4, by have := t2'.2; omega⟩
      · obtain ⟨-, r⟩ := nOne26 e7 w
        rw [l12 p1 hp] at r
        exact r
theorem nNeeds {c : Int32} {ξ ζ : gM} (e : fX12_needsSign c ξ = some ζ) : nPG 0 ξ ζ ∧ (nTP ξ → ζ 267 6 = 0 → nPh ξ ≤ (ζ 267 4).toInt) := by
  have st : ζ 267 6 = 0 → ξ 267 6 = 0 := SB.c (bX12_needsSign (SB.rf ξ) _ e)
  have all : nTP ξ → ζ 267 6 = 0 → nTP ζ ∧ nPh ξ ≤ (ζ 267 4).toInt := fun t w => by
    unfold fX12_needsSign at e
    obtain ⟨v, e1, e2⟩ := bdI e
    rcases nFine e1 with ⟨rfl, cc⟩ | ⟨cc, -⟩
    · rw [if_pos rfl] at e2
      obtain rfl := Option.some.inj e2
      exact absurd w cc
    · rw [if_neg cc] at e2
      obtain ⟨x2, μ3, e3, e4⟩ := bpI e2
      by_cases c2 : x2 = 0
      · rw [if_pos c2] at e4
        obtain ⟨μ4, e5, e6⟩ := bdI e4
        obtain rfl := Option.some.inj e6
        exact absurd w (nUnl e5)
      · rw [if_neg c2] at e4
        obtain rfl := Option.some.inj e4
        unfold fX12_takesSign at e3
        obtain ⟨y, f1, f2⟩ := bdI e3
        rcases nFine f1 with ⟨rfl, d⟩ | ⟨d, -⟩
        · rw [if_pos rfl] at f2
          obtain ⟨rfl, rfl⟩ := Prod.mk.inj (Option.some.inj f2)
          exact absurd rfl c2
        · rw [if_neg d] at f2
          obtain ⟨z, μ5, f3, f4⟩ := bpI f2
          unfold fX12_isOver at f3
          obtain ⟨u, μ6, g1, g2⟩ := bpI f3
          obtain ⟨t6, q6, -, -, -, u6, -⟩ := nNext g1 t
          by_cases cz : u < μ6 267 3
          · rw [if_pos cz] at g2
            obtain ⟨rfl, rfl⟩ := Prod.mk.inj (Option.some.inj g2)
            rw [if_pos rfl] at f4
            have f4 := ckI f4
            split at f4
            · rw [zLt_eq] at f4
              obtain ⟨rfl, rfl⟩ := Prod.mk.inj (Option.some.inj f4)
              obtain ⟨b, n, p, h, ha, hn, he⟩ := t6
              have lt := Int32.lt_iff_toInt_lt.mp cz
              have h3 := h.1
              have n15 := h.2.1
              have a4 : (gUp μ6 267 4 (μ6 267 4 + 1) 267 4).toInt = ((p + 1 : Nat) : Int) := by
                rw [zUp_same, iA ha (iL (1) (1) rfl) (by omega) (by omega)]; omega
              refine ⟨⟨b, n, p + 1, ⟨by rw [zUp_slot _ (by decide)]; exact h.1, h.2.1, fun i hi => by rw [zUp_ne _ (by decide)]; exact h.2.2 i hi⟩, a4, by omega, by rw [zUp_slot _ (by decide)]; omega⟩, ?_⟩
              have := (nPh_at μ6).2
              rw [a4]
              omega
            · obtain ⟨rfl, rfl⟩ := Prod.mk.inj (Option.some.inj f4)
              exact absurd rfl c2
          · rw [if_neg cz] at g2
            obtain ⟨rfl, rfl⟩ := Prod.mk.inj (Option.some.inj g2)
            rw [if_neg one_n0] at f4
            obtain ⟨rfl, rfl⟩ := Prod.mk.inj (Option.some.inj f4)
            exact absurd rfl c2
  refine ⟨⟨st, fun t w => ?_⟩, fun t w => (all t w).2⟩
  obtain ⟨t1, q1⟩ := all t w
  have := (nPh_at ζ).1
  exact ⟨t1, by omega⟩
