/-! statements -/
theorem pIsW {b : Nat → Nat} {n s k : Nat} {g : Int} {μ ξ : gM} {w : Int32} (hk : k < 21) (hw : w = Wm k) (h : SIM b n s g μ ξ) : ∃ (y : Int32) (ξ' : gM), fX12_isWord w ξ = some (y, ξ') ∧ MF pW ξ ξ' ∧ SIM b n s g μ ξ' ∧ (ξ' 267 4).toInt = s ∧ ((WD b n s g k ∧ y = 1 ∧ (ξ' 267 11).toInt = wl k) ∨ (¬ WD b n s g k ∧ y = 0)) := by
  subst hw
  obtain ⟨p, q1, q2, q3, q4⟩ := h.2.2.2.2.1
  obtain ⟨⟨x1, ξ2⟩, e2, t, k1, k2, k3, k4⟩ := mIsWord hk h.2.2.2.1 q1 q2 h.2.2.2.2.2.2
  have k2 : (ξ2 267 4).toInt = t := k2
  have k3 : MF pW ξ ξ2 := k3
  have et : t = s := Skp.uniq k1 q3
  subst et
  refine ⟨x1, ξ2, e2, k3, h.look k3 (by unfold pW; omega) (by unfold pW; omega) (by unfold pW; omega) k2, k2, ?_⟩
  rcases k4 with ⟨w1, w2, w3⟩ | ⟨w1, w2⟩
  · exact Or.inl ⟨(h.gd k).mpr w1, w2, w3⟩
  · exact Or.inr ⟨fun d => w1 ((h.gd k).mp d), w2⟩
theorem MF.trW {ξ ζ χ : gM} (h : MF pW ξ ζ) (g : MF pW ζ χ) : MF pW ξ χ := h.tr g (fun _ w => w) (fun _ w => w)
theorem MF.wF {ξ ζ : gM} (h : MF pW ξ ζ) : MF pF ξ ζ := h.tr (MF.rf (P := pF) _) (fun i w => by unfold pW at w; unfold pF; omega) (fun _ w => w)
def KC (k c : Nat) : Prop := (k = 0 ∧ c = 0) ∨ (k = 1 ∧ c = 1) ∨ (k = 2 ∧ c = 2) ∨ (k = 7 ∧ c = 3) ∨ (k = 11 ∧ c = 4)
theorem pHere {b : Nat → Nat} {n s : Nat} {g : Int} {μ ξ : gM} (h : SIM b n s g μ ξ) : ∃ (x v : Int32) (ξ' : gM), fX7_ownWord μ = some x ∧ fX12_statementHere ξ = some (v, ξ') ∧ MF pW ξ ξ' ∧ SIM b n s g μ ξ' ∧ (ξ' 267 4).toInt = s ∧ ((∃ k c : Nat, KC k c ∧ x = nI k ∧ v = nI c ∧ WD b n s g k ∧ (ξ' 267 11).toInt = wl k) ∨ (v = -1 ∧ x ≠ 0 ∧ x ≠ 1 ∧ x ≠ 2 ∧ x ≠ 7 ∧ x ≠ 11)) := by
  obtain ⟨x, ex, px⟩ := cOwn h.2.1 h.2.2.1
  have yes : ∀ k, k < 21 → WD b n s g k → x = nI k := fun k hk d => by
    rcases px with ⟨j, hj, u1, u2⟩ | ⟨u1, u2⟩
    · rw [u1, WD.uniq hj hk u2 d]
    · exact absurd d (u2 k hk)
  have no : ∀ k, k < 21 → ¬ WD b n s g k → x ≠ nI k := fun k hk d q => by
    rcases px with ⟨j, hj, u1, u2⟩ | ⟨u1, u2⟩
    · rw [u1] at q
      have := nI_inj (by omega) (by omega) q
      subst this
      exact d u2
    · rw [u1] at q
      exact nI_nm (by omega) q.symm
  unfold fX12_statementHere
  obtain ⟨y1, ξ1, a1, f1, h1, p1, c1⟩ := pIsW (k := 0) (w := 231045) (by decide) rfl h
  rw [a1, zBp_some]
  rcases c1 with ⟨d, rfl, l⟩ | ⟨d1, rfl⟩
  · rw [if_neg one_n0]
    exact ⟨x, 0, ξ1, ex, rfl, f1, h1, p1, Or.inl ⟨0, 0, by unfold KC; omega, yes 0 (by decide) d, rfl, d, l⟩⟩
  rw [if_pos rfl]
  obtain ⟨y2, ξ2, a2, f2, h2, p2, c2⟩ := pIsW (k := 1) (w := 402891) (by decide) rfl h1
  have f2 := f1.trW f2
  rw [a2, zBp_some]
  rcases c2 with ⟨d, rfl, l⟩ | ⟨d2, rfl⟩
  · rw [if_neg one_n0]
    exact ⟨x, 1, ξ2, ex, rfl, f2, h2, p2, Or.inl ⟨1, 1, by unfold KC; omega, yes 1 (by decide) d, rfl, d, l⟩⟩
  rw [if_pos rfl]
  obtain ⟨y3, ξ3, a3, f3, h3, p3, c3⟩ := pIsW (k := 2) (w := 7945904) (by decide) rfl h2
  have f3 := f2.trW f3
  rw [a3, zBp_some]
  rcases c3 with ⟨d, rfl, l⟩ | ⟨d3, rfl⟩
  · rw [if_neg one_n0]
    exact ⟨x, 2, ξ3, ex, rfl, f3, h3, p3, Or.inl ⟨2, 2, by unfold KC; omega, yes 2 (by decide) d, rfl, d, l⟩⟩
  rw [if_pos rfl]
  obtain ⟨y4, ξ4, a4, f4, h4, p4, c4⟩ := pIsW (k := 7) (w := 441878706) (by decide) rfl h3
  have f4 := f3.trW f4
  rw [a4, zBp_some]
  rcases c4 with ⟨d, rfl, l⟩ | ⟨d4, rfl⟩
  · rw [if_neg one_n0]
    exact ⟨x, 3, ξ4, ex, rfl, f4, h4, p4, Or.inl ⟨7, 3, by unfold KC; omega, yes 7 (by decide) d, rfl, d, l⟩⟩
  rw [if_pos rfl]
  obtain ⟨y5, ξ5, a5, f5, h5, p5, c5⟩ := pIsW (k := 11) (w := 21562475) (by decide) rfl h4
  have f5 := f4.trW f5
  rw [a5, zBp_some]
  rcases c5 with ⟨d, rfl, l⟩ | ⟨d5, rfl⟩
  · rw [if_neg one_n0]
    exact ⟨x, 4, ξ5, ex, rfl, f5, h5, p5, Or.inl ⟨11, 4, by unfold KC; omega, yes 11 (by decide) d, rfl, d, l⟩⟩
  rw [if_pos rfl]
  exact ⟨x, -1, ξ5, ex, rfl, f5, h5, p5, Or.inr ⟨rfl, no 0 (by decide) d1, no 1 (by decide) d2, no 2 (by decide) d3, no 7 (by decide) d4, no 11 (by decide) d5⟩⟩
/-- behind the keyword -/
theorem pAdv {b : Nat → Nat} {n s k : Nat} {g : Int} {μ ξ : gM} (h : SIM b n s g μ ξ) (wd : WD b n s g k) (h4 : (ξ 267 4).toInt = s) (h11 : (ξ 267 11).toInt = wl k) : ∃ μ' ξ', fX7_advance μ = some μ' ∧ fX12_pass ξ = some ξ' ∧ LF μ μ' ∧ MF pF ξ ξ' ∧ ∃ s' g', SIM b n s' g' μ' ξ' := by
  have hn5 := h.1.2.1
  have hle : s + wl k ≤ n := wd.1.2.2.1.2.1
  obtain ⟨ζ, eζ, z1, z2, z3⟩ := mPass h4 h11 (by omega)
  have fζ : MF pF ξ ζ := z3.tr (MF.rf (P := pF) _) (fun i w => by unfold pF; omega) (fun _ w => w)
  obtain ⟨u2, u3, u4⟩ := h.word wd.1
  obtain ⟨ν, eν, l1, l2⟩ := SIM.adv h.1 h.2.2.1 u4 hle (Or.inl u2) (h.2.2.2.1.mf fζ (by unfold pF; omega)) z1 z2 (by rw [z3.2 6 (by decide)]; exact h.2.2.2.2.2.2)
  exact ⟨ν, ζ, eν, eζ, l1, fζ, l2⟩
/-- too many of them -/
theorem pSix {b : Nat → Nat} {n s : Nat} {g : Int} {μ ξ : gM} (h : SIM b n s g μ ξ) : ∃ (ν : gM) (x : Int32) (ζ χ : gM), fX2_readStatement_n66 (μ 1 5) μ = some (0, ν) ∧ fX12_next ξ = some (x, ζ) ∧ fX12_fail 6 x ζ = some χ ∧ CF μ ν ∧ MF pF ξ χ ∧ FLT b n ν χ := by
  obtain ⟨p, q1, q2, q3, q4⟩ := h.2.2.2.2.1
  obtain ⟨⟨x, ζ⟩, eζ, t, k1, k2, k3, k4⟩ := mNext h.2.2.2.1 q1 q2
  have et : t = s := Skp.uniq k1 q3
  subst et
  have k2 : x.toInt = t := k2
  have k3 : (ζ 267 4).toInt = t := k3
  have k4 : MF p4 ξ ζ := k4
  obtain ⟨χ, z0, z1, z2, z3⟩ := mFail (k := 6) (p := x) (ξ := ζ) (by rw [k4.2 6 (by unfold p4; omega)]; exact h.2.2.2.2.2.2)
  obtain ⟨ν, r1, r2, r3, r4⟩ := cRefuse (k := 6) (p := μ 1 5) (μ := μ)
  have f : MF pF ξ χ := k4.tr z3 (fun i w => by unfold p4 at w; unfold pF; omega) (fun i w => by unfold pF; omega)
  refine ⟨ν, x, ζ, χ, by unfold fX2_readStatement_n66; rw [r1]; rfl, eζ, z0, r4, f, r2.trans z1.symm, by rw [r3, z2]; exact i_eq h.2.1.1 k2, by rw [z1]; decide, h.2.2.2.1.mf f (by unfold pF; omega), t, by rw [z3.2 4 (by omega)]; exact k3, k1.2.1⟩
theorem nRead {t : Nat} {a r : Int32} {ξ ξ2 : gM} (ht : t < 3) (ha : a.toInt = t) (hm : fX12_mostOf a ξ = some r) (hne : ξ 270 t ≠ r) (hb : ξ 267 6 = 0) (hp : fX12_pass ξ = some ξ2) : fX12_newRead a ξ = mTail a (ξ 270 t) ξ2 := by
  unfold fX12_newRead
  rw [show (0 : Int32) + a = a from Int32.zero_add _, cl_of ha, hm]
  simp only [zCk, zLt, zBd_some]
  rw [if_pos (zIn ha (by omega) (by omega)), if_neg hne]
  unfold fX12_newRead_n27
  rw [mFine1 hb, zBd_some, if_neg one_n0, hp, zBd_some]
  rfl
theorem nFull {t : Nat} {a r x : Int32} {ξ ζ χ : gM} (ht : t < 3) (ha : a.toInt = t) (hm : fX12_mostOf a ξ = some r) (hne : ξ 270 t = r) (h1 : fX12_next ξ = some (x, ζ)) (h2 : fX12_fail 6 x ζ = some χ) (hb : χ 267 6 ≠ 0) : fX12_newRead a ξ = some (0, χ) := by
  unfold fX12_newRead
  rw [show (0 : Int32) + a = a from Int32.zero_add _, cl_of ha, hm]
  simp only [zCk, zLt, zBd_some]
  rw [if_pos (zIn ha (by omega) (by omega)), if_pos hne, h1, zBp_some, h2, zBd_some]
  unfold fX12_newRead_n27
  rw [mFine0 hb, zBd_some, if_pos rfl]
theorem pFin {b : Nat → Nat} {n : Nat} {μ ξ μ1 ξ1 : gM} {v : Int32} (bo : Both b n μ ξ v μ1 ξ1) : ∃ w μ' ξ', fX2_readStatement_n154 v μ1 = some (w, μ') ∧ fX12_statement_n58 ξ1 = some ξ' ∧ Both b n μ ξ w μ' ξ' := by
  obtain ⟨x, y, bo⟩ := bo
  unfold fX2_readStatement_n154 fX12_statement_n58
  rcases bo with ⟨rfl, ⟨s, g, h⟩, dr⟩ | ⟨rfl, fl⟩
  · rw [if_neg one_n0]
    obtain ⟨w, μ', ξ', u1, u2, u3, u4, u5⟩ := pStop h
    rw [u1, u2, zBp_some, zBd_some]
    rcases u5 with ⟨rfl, h'⟩ | ⟨rfl, fl⟩
    · rw [if_neg one_n0]
      exact ⟨1, μ', ξ', rfl, rfl, x.tr u3.xf, y.tr u4.yf, Or.inl ⟨rfl, h', dr.fr u3.1 u4.1⟩⟩
    · rw [if_pos rfl]
      exact ⟨0, μ', ξ', rfl, rfl, x.tr u3.xf, y.tr u4.yf, Or.inr ⟨rfl, fl⟩⟩
  · rw [if_pos rfl, bSign fl.2.2.1, zBd_some]
    exact ⟨0, μ1, ξ1, rfl, rfl, x, y, Or.inr ⟨rfl, fl⟩⟩
theorem n58_bad {ξ : gM} (hb : ξ 267 6 ≠ 0) : fX12_statement_n58 ξ = some ξ := by
  unfold fX12_statement_n58
  rw [bSign hb, zBd_some]
theorem pStName {b : Nat → Nat} {n s t c R : Nat} {g : Int} {μ ξ : gM} {a r told : Int32} (ht : t < 2) (hat : a = nI t) (h60 : told.toInt < 60) (h : SIM b n s g μ ξ) (dr : DR μ ξ) (wd : WD b n s g t) (h4 : (ξ 267 4).toInt = s) (h11 : (ξ 267 11).toInt = wl t) (hr : r = nI R) (R8 : R ≤ 8) (R6 : t = 0 → R = 6) (hc : ξ 270 t = nI c) (cR : c ≤ R) (hf : fX2_isFull a μ = if μ 19 t < r then some 0 else some 1) (hm : fX12_mostOf a ξ = some r) : ∃ v μ' ξ', fX2_readStatement_n52 told (μ 1 5) a μ = some (v, μ') ∧ zBd (fX12_namesRead a ξ) (fun μ7 => (fX12_statement_n58 μ7)) = some ξ' ∧ Both b n μ ξ v μ' ξ' := by
  have ta : a.toInt = t := by rw [hat]; exact nI_toInt (by omega)
  have tc : (nI c).toInt = c := nI_toInt (by omega)
  have tr : r.toInt = R := by rw [hr]; exact nI_toInt (by omega)
  have z60 : (60 : Int32).toInt = 60 := rfl
  have m19 : μ 19 t = nI c := by
    have : t = 0 ∨ t = 1 := by omega
    rcases this with rfl | rfl
    · rw [← hc]; exact dr.1.1.1
    · rw [← hc]; exact dr.1.2.1.1
  unfold fX2_readStatement_n52
  rw [if_neg (fun w => by have := Int32.le_iff_toInt_le.mp w; omega), hf, m19]
  have eN : fX12_namesRead a ξ = zBp (fX12_newRead a ξ) (mNRest a) := rfl
  rw [eN]
  by_cases c1 : c < R
  · rw [if_pos (Int32.lt_iff_toInt_lt.mpr (by omega)), zBd_some, if_pos rfl]
    obtain ⟨μ1, ξ1, u1, u2, l1, l2, s1, g1, h1⟩ := pAdv h wd h4 h11
    rw [nRead (by omega) ta hm (fun w => by rw [hc, hr] at w; have := nI_inj (by omega) (by omega) w; omega) h.2.2.2.2.2.2 u2, u1, zBd_some]
    have na : a ≠ 2 ∧ a ≠ 7 ∧ a ≠ 11 := by
      have : t = 0 ∨ t = 1 := by omega
      rcases this with rfl | rfl <;> rw [hat] <;> exact ⟨by decide, by decide, by decide⟩
    rw [if_neg na.1, if_neg na.2.1, if_neg na.2.2]
    obtain ⟨v, μ2, ξ2, w1, w2, w3⟩ := pNames (t := t) (c := c) (a := a) (x2 := ξ 270 t) ht hat h1 (dr.fr l1.1 l2.1) (by rw [l2.1 270 (by decide)]; exact hc) (fun e => by have := R6 e; omega) (by omega) hc
    rw [w1, w2, zBp_some, zBd_some]
    obtain ⟨w, μ', ξ', x1, x2, x3⟩ := pFin w3
    exact ⟨w, μ', ξ', x1, x2, x3.pre l1.cf l2⟩
  · rw [if_neg (fun w => by have := Int32.lt_iff_toInt_lt.mp w; omega), zBd_some, if_neg one_n0]
    obtain ⟨ν, x, ζ, χ, u1, u2, u3, u4, u5, u6⟩ := pSix h
    rw [u1, nFull (by omega) ta hm (by rw [hc, hr, show c = R by omega]) u2 u3 u6.2.2.1, zBp_some]
    unfold mNRest
    rw [mFine0 u6.2.2.1, zBd_some, if_pos rfl, zBd_some, n58_bad u6.2.2.1]
    exact ⟨0, ν, χ, rfl, rfl, bothG u4.xf u5.yf u6⟩
theorem full0 (μ : gM) : fX2_isFull 0 μ = if μ 19 0 < 6 then some 0 else some 1 := by
  unfold fX2_isFull fX1_room zCk
  rw [if_neg (by decide), if_neg (by decide), if_pos (by decide), if_pos rfl, zBd_some]
  rfl
theorem full1 (μ : gM) : fX2_isFull 1 μ = if μ 19 1 < 8 then some 0 else some 1 := by
  unfold fX2_isFull fX1_room zCk
  rw [if_neg (by decide), if_neg (by decide), if_pos (by decide), if_neg (by decide), if_pos rfl, zBd_some]
  rfl
theorem full2 (μ : gM) : fX2_isFull 2 μ = if μ 19 2 < 5 then some 0 else some 1 := by
  unfold fX2_isFull fX1_room zCk
  rw [if_neg (by decide), if_neg (by decide), if_pos (by decide), if_neg (by decide), if_neg (by decide), zBd_some]
  rfl
theorem mG_bad {b : Nat → Nat} {n : Nat} {x1 : Int32} {ξ : gM} (m : MP b n ξ) (bb : ξ 267 6 ≠ 0) : ∃ ζ, mGRest x1 ξ = some ζ ∧ BF ξ ζ ∧ MP b n ζ := by
  obtain ⟨ζ, z0, z1, z2⟩ := bNumber (a1 := 1) (a2 := 40) m bb
  have bz : ζ 267 6 ≠ 0 := by rw [z1.bad]; exact bb
  unfold mGRest
  rw [bAsks bb, zBd_some, z0, zBp_some, bTakes bz, zBp_some, if_pos rfl, bTakes bz, zBp_some, bN53 bz]
  exact ⟨ζ, rfl, z1, z2⟩
theorem pStGroup {b : Nat → Nat} {n s : Nat} {g : Int} {μ ξ : gM} {told : Int32} (h60 : told.toInt < 60) (h : SIM b n s g μ ξ) (dr : DR μ ξ) (wd : WD b n s g 2) (h4 : (ξ 267 4).toInt = s) (h11 : (ξ 267 11).toInt = wl 2) : ∃ v μ' ξ', fX2_readStatement_n52 told (μ 1 5) 2 μ = some (v, μ') ∧ zBd (fX12_groupRead ξ) (fun μ9 => (fX12_statement_n58 μ9)) = some ξ' ∧ Both b n μ ξ v μ' ξ' := by
  obtain ⟨cg, ct, l1, l2, l3, l4, -⟩ := id dr.2.2.2
  have tcg : (nI cg).toInt = cg := nI_toInt (by omega)
  have z60 : (60 : Int32).toInt = 60 := rfl
  have z5 : (5 : Int32).toInt = 5 := rfl
  have m19 : μ 19 2 = nI cg := by rw [← l4]; exact dr.1.2.2.1
  have hm : fX12_mostOf 2 ξ = some 5 := by
    unfold fX12_mostOf
    rw [if_neg (by decide), if_neg (by decide)]
  unfold fX2_readStatement_n52
  rw [if_neg (fun w => by have := Int32.le_iff_toInt_le.mp w; omega), full2, m19]
  have eN : fX12_groupRead ξ = zBp (fX12_newRead 2 ξ) mGRest := rfl
  rw [eN]
  by_cases c1 : cg < 5
  · rw [if_pos (Int32.lt_iff_toInt_lt.mpr (by omega)), zBd_some, if_pos rfl]
    obtain ⟨μ1, ξ1, u1, u2, k1, k2, s1, g1, h1⟩ := pAdv h wd h4 h11
    rw [nRead (t := 2) (by omega) rfl hm (fun w => by rw [l4] at w; have := congrArg Int32.toInt w; omega) h.2.2.2.2.2.2 u2, u1, zBd_some, if_pos rfl]
    obtain ⟨v, μ2, ξ2, w1, w2, w3⟩ := pGroup (cg := cg) (x2 := ξ 270 2) h1 (dr.fr k1.1 k2.1) (by rw [k2.1 270 (by decide)]; exact l4) (by omega) l4
    rw [w1, w2, zBp_some, zBd_some]
    obtain ⟨w, μ', ξ', x1, x2, x3⟩ := pFin w3
    exact ⟨w, μ', ξ', x1, x2, x3.pre k1.cf k2⟩
  · rw [if_neg (fun w => by have := Int32.lt_iff_toInt_lt.mp w; omega), zBd_some, if_neg one_n0]
    obtain ⟨ν, x, ζ, χ, u1, u2, u3, u4, u5, u6⟩ := pSix h
    obtain ⟨ω, o0, o1, o2⟩ := mG_bad (x1 := 0) u6.2.2.2 u6.2.2.1
    rw [u1, nFull (t := 2) (by omega) rfl hm (by rw [l4, show cg = 5 by omega]; rfl) u2 u3 u6.2.2.1, zBp_some, o0, zBd_some, n58_bad (by rw [o1.bad]; exact u6.2.2.1)]
    exact ⟨0, ν, ω, rfl, rfl, bothF u4.xf u5.yf u6 o1 o2⟩
theorem pStMember {b : Nat → Nat} {n s : Nat} {g : Int} {μ ξ : gM} {told : Int32} (h60 : told.toInt < 60) (h : SIM b n s g μ ξ) (dr : DR μ ξ) (wd : WD b n s g 7) (h4 : (ξ 267 4).toInt = s) (h11 : (ξ 267 11).toInt = wl 7) : ∃ v μ' ξ', fX2_readStatement_n52 told (μ 1 5) 7 μ = some (v, μ') ∧ zBd (fX12_memberRead ξ) (fun μ5 => (fX12_statement_n58 μ5)) = some ξ' ∧ Both b n μ ξ v μ' ξ' := by
  have z60 : (60 : Int32).toInt = 60 := rfl
  obtain ⟨μ1, ξ1, u1, u2, k1, k2, s1, g1, h1⟩ := pAdv h wd h4 h11
  unfold fX2_readStatement_n52 fX2_isFull
  have eN : fX12_memberRead ξ = zBd (fX12_pass ξ) mMRest := rfl
  rw [if_neg (fun w => by have := Int32.le_iff_toInt_le.mp w; omega), if_neg (show ¬ (7 : Int32) = 11 by decide), if_pos rfl, zBd_some, if_pos rfl, u1, zBd_some, if_neg (show ¬ (7 : Int32) = 2 by decide), if_pos rfl, eN, u2, zBd_some]
  obtain ⟨v, μ2, ξ2, w1, w2, w3⟩ := pMember h1 (dr.fr k1.1 k2.1)
  rw [w1, w2, zBp_some, zBd_some]
  obtain ⟨w, μ', ξ', x1, x2, x3⟩ := pFin w3
  exact ⟨w, μ', ξ', x1, x2, x3.pre k1.cf k2⟩
theorem pStTrack {b : Nat → Nat} {n s : Nat} {g : Int} {μ ξ : gM} {told : Int32} (h60 : told.toInt < 60) (h : SIM b n s g μ ξ) (dr : DR μ ξ) (wd : WD b n s g 11) (h4 : (ξ 267 4).toInt = s) (h11 : (ξ 267 11).toInt = wl 11) : ∃ v μ' ξ', fX2_readStatement_n52 told (μ 1 5) 11 μ = some (v, μ') ∧ zBd (fX12_trackRead ξ) (fun μ3 => (fX12_statement_n58 μ3)) = some ξ' ∧ Both b n μ ξ v μ' ξ' := by
  obtain ⟨cg, ct, l1, l2, l3, l4, l5, l6, -⟩ := id dr.2.2.2
  have tct : (nI ct).toInt = ct := nI_toInt (by omega)
  have z60 : (60 : Int32).toInt = 60 := rfl
  have z24 : (24 : Int32).toInt = 24 := rfl
  unfold fX2_readStatement_n52 fX2_isFull fX12_trackRead
  simp only [zLt]
  rw [if_neg (fun w => by have := Int32.le_iff_toInt_le.mp w; omega), if_pos trivial, l6, l5]
  by_cases c1 : ct < 24
  · rw [if_pos (Int32.lt_iff_toInt_lt.mpr (by omega)), zBd_some, if_pos rfl]
    obtain ⟨μ1, ξ1, u1, u2, k1, k2, s1, g1, h1⟩ := pAdv h wd h4 h11
    rw [if_neg (fun w => by have := congrArg Int32.toInt w; omega), u1, zBd_some, if_neg (show ¬ (11 : Int32) = 2 by decide), if_neg (show ¬ (11 : Int32) = 7 by decide), if_pos trivial]
    unfold fX12_trackRead_n23
    rw [mFine1 h.2.2.2.2.2.2, zBd_some, if_neg one_n0, u2, zBd_some]
    obtain ⟨v, μ2, ξ2, w1, w2, w3⟩ := pTrack (ct := ct) h1 (dr.fr k1.1 k2.1) (by rw [k2.1 270 (by decide)]; exact l5) c1
    unfold mKM at w2
    rw [w1, w2, zBp_some, zBd_some]
    obtain ⟨w, μ', ξ', x1, x2, x3⟩ := pFin w3
    exact ⟨w, μ', ξ', x1, x2, x3.pre k1.cf k2⟩
  · rw [if_neg (fun w => by have := Int32.lt_iff_toInt_lt.mp w; omega), zBd_some, if_neg one_n0]
    obtain ⟨ν, x, ζ, χ, u1, u2, u3, u4, u5, u6⟩ := pSix h
    have e24 : nI ct = 24 := Int32.toInt_inj.mp (by omega)
    rw [u1, if_pos e24, u2, zBp_some, u3, zBd_some]
    unfold fX12_trackRead_n23
    rw [mFine0 u6.2.2.1, zBd_some, if_pos rfl, zBd_some, n58_bad u6.2.2.1]
    exact ⟨0, ν, χ, rfl, rfl, bothG u4.xf u5.yf u6⟩
theorem pStatement {b : Nat → Nat} {n s : Nat} {g : Int} {μ ξ : gM} {told : Int32} (h60 : told.toInt < 60) (h : SIM b n s g μ ξ) (dr : DR μ ξ) : ∃ v μ' ξ', fX2_readStatement told μ = some (v, μ') ∧ fX12_statement ξ = some ξ' ∧ Both b n μ ξ v μ' ξ' := by
  obtain ⟨x, v, ξ1, ex, ev, f1, h1, p1, c⟩ := pHere h
  have mf1 := f1.wF
  have dr1 : DR μ ξ1 := dr.fr (fun _ _ => rfl) mf1.1
  have pre : ∀ {w : Int32} {μ' ξ' : gM}, Both b n μ ξ1 w μ' ξ' → Both b n μ ξ w μ' ξ' := fun bo => bo.pre (CF.rf _) mf1
  unfold fX2_readStatement fX12_statement
  simp only [zLt]
  rw [ex, zBd_some, ev, zBp_some]
  rcases c with ⟨k, c, kc, rfl, rfl, wd, l⟩ | ⟨rfl, x0, x1, x2, x7, x11⟩
  · rcases kc with ⟨rfl, rfl⟩ | ⟨rfl, rfl⟩ | ⟨rfl, rfl⟩ | ⟨rfl, rfl⟩ | ⟨rfl, rfl⟩
    · rw [if_pos (show nI 0 = 0 from rfl), if_neg (show ¬ nI 0 = -1 by decide), if_neg (show ¬ nI 0 = 2 by decide), if_neg (show ¬ (2 : Int32) ≤ nI 0 by decide)]
      have b8 := dr1.1.1.2.1
      have b6 : (ξ1 270 0).toInt ≤ 6 := by
        obtain ⟨cg, ct, l1, l2, l3, -⟩ := id dr1.2.2.2
        exact l3
      obtain ⟨w, μ', ξ', w1, w2, w3⟩ := pStName (t := 0) (c := (ξ1 270 0).toInt.toNat) (R := 6) (r := 6) (a := 0) (by decide) rfl h60 h1 dr1 wd p1 l rfl (by decide) (fun _ => rfl) (nI_of' (by omega)) (by omega) (full0 μ) (by unfold fX12_mostOf; rw [if_pos rfl])
      exact ⟨w, μ', ξ', w1, w2, pre w3⟩
    · rw [if_neg (show ¬ nI 1 = 0 by decide), if_pos (show nI 1 = 1 from rfl), if_neg (show ¬ nI 1 = -1 by decide), if_neg (show ¬ nI 1 = 2 by decide), if_neg (show ¬ (2 : Int32) ≤ nI 1 by decide)]
      have b8 := dr1.1.2.1.2.1
      obtain ⟨w, μ', ξ', w1, w2, w3⟩ := pStName (t := 1) (c := (ξ1 270 1).toInt.toNat) (R := 8) (r := 8) (a := 1) (by decide) rfl h60 h1 dr1 wd p1 l rfl (by decide) (fun e => absurd e (by decide)) (nI_of' (by omega)) (by omega) (full1 μ) (by unfold fX12_mostOf; rw [if_neg (by decide), if_pos rfl])
      exact ⟨w, μ', ξ', w1, w2, pre w3⟩
    · rw [if_neg (show ¬ nI 2 = 0 by decide), if_neg (show ¬ nI 2 = 1 by decide), if_pos (show nI 2 = 2 from rfl), if_neg (show ¬ nI 2 = -1 by decide), if_pos (show nI 2 = 2 from rfl)]
      obtain ⟨w, μ', ξ', w1, w2, w3⟩ := pStGroup h60 h1 dr1 wd p1 l
      exact ⟨w, μ', ξ', w1, w2, pre w3⟩
    · rw [if_neg (show ¬ nI 7 = 0 by decide), if_neg (show ¬ nI 7 = 1 by decide), if_neg (show ¬ nI 7 = 2 by decide), if_pos (show nI 7 = 7 from rfl), if_neg (show ¬ nI 3 = -1 by decide), if_neg (show ¬ nI 3 = 2 by decide), if_pos (show (2 : Int32) ≤ nI 3 by decide), if_pos (show nI 3 = 3 from rfl)]
      obtain ⟨w, μ', ξ', w1, w2, w3⟩ := pStMember h60 h1 dr1 wd p1 l
      exact ⟨w, μ', ξ', w1, w2, pre w3⟩
    · rw [if_neg (show ¬ nI 11 = 0 by decide), if_neg (show ¬ nI 11 = 1 by decide), if_neg (show ¬ nI 11 = 2 by decide), if_neg (show ¬ nI 11 = 7 by decide), if_pos (show nI 11 = 11 from rfl), if_neg (show ¬ nI 4 = -1 by decide), if_neg (show ¬ nI 4 = 2 by decide), if_pos (show (2 : Int32) ≤ nI 4 by decide), if_neg (show ¬ nI 4 = 3 by decide)]
      obtain ⟨w, μ', ξ', w1, w2, w3⟩ := pStTrack h60 h1 dr1 wd p1 l
      exact ⟨w, μ', ξ', w1, w2, pre w3⟩
  · rw [if_neg x0, if_neg x1, if_neg x2, if_neg x7, if_neg x11, if_pos rfl]
    obtain ⟨p, q1, q2, q3, q4⟩ := h1.2.2.2.2.1
    obtain ⟨ζ, eζ, t, k1, k2, k3, k4, k5⟩ := mUnlike h1.2.2.2.1 q1 q2 h1.2.2.2.2.2.2
    have et : t = s := Skp.uniq k1 q3
    obtain ⟨ν, r1, r2, r3, r4⟩ := cRefuse (k := 1) (p := μ 1 5) (μ := μ)
    have bz : ζ 267 6 ≠ 0 := by rw [k2]; decide
    rw [r1, zBp_some, eζ, zBd_some, n58_bad bz]
    exact ⟨0, ν, ζ, rfl, rfl, bothG r4.xf (mf1.trF k4).yf ⟨r2.trans k2.symm, by rw [r3]; exact i_eq h.2.1.1 (by rw [k3, et]), bz, h1.2.2.2.1.mf k4 (by unfold pF; omega), t, k5, k1.2.1⟩⟩
/-! the whole text -/
theorem net_l33_bad {m : Nat} {y : Int32} {ξ : gM} (hb : ξ 267 6 ≠ 0) : fX12_net_l33 (m + 1) y ξ = fX12_net_n92 ξ := by
  rw [fX12_net_l33, mFine0 hb, zBd_some, if_pos rfl]
theorem pRead_l {b : Nat → Nat} {n : Nat} {T : Int32} {C : gM} : ∀ (m : Nat) (t s : Nat) (g : Int) (y : Int32) (μ ξ : gM), y.toInt = t → t ≤ 60 → 61 < t + m → SIM b n s g μ ξ → DR μ ξ → K T C ξ → ∃ v μ' ξ', fX2_read_l16 m y μ = some (v, μ') ∧ fX12_net_l33 m y ξ = fX12_net_n92 ξ' ∧ Both b n μ ξ v μ' ξ' ∧ (v = 1 → K T C ξ') := by
  intro m
  induction m with
  | zero =>
    intro t s g y μ ξ hy ht gm
    exact absurd gm (by omega)
  | succ m ih =>
    intro t s g y μ ξ hy ht gm h dr kk
    obtain ⟨m, rfl⟩ : ∃ m', m = m' + 1 := ⟨m - 1, by omega⟩
    have z60 : (60 : Int32).toInt = 60 := rfl
    obtain ⟨v, w, ξ1, e1, e2, f1, h1, p1, c⟩ := pOver h
    have mf1 : MF pF ξ ξ1 := f1.tr (MF.rf (P := pF) _) (fun i w => by unfold p4 at w; unfold pF; omega) (fun _ w => w)
    have dr1 : DR μ ξ1 := dr.fr (fun _ _ => rfl) mf1.1
    have kk1 : K T C ξ1 := by
      obtain ⟨r, er, pr⟩ := tX12_isOver kk.hk kk.kl
      rw [e2] at er
      obtain rfl := Option.some.inj er
      exact kk.lex pr.1
    rw [fX2_read_l16, fX12_net_l33, if_neg (fun w => by have := Int32.lt_iff_toInt_lt.mp w; omega), e1, zBd_some, mFine1 h.2.2.2.2.2.2, zBd_some, if_neg one_n0, e2, zBp_some]
    rcases c with ⟨c1, rfl, rfl⟩ | ⟨c1, rfl, rfl⟩
    · rw [if_neg one_n0, if_neg one_n0]
      exact ⟨1, μ, ξ1, rfl, rfl, ⟨(CF.rf μ).xf, mf1.yf, Or.inl ⟨rfl, ⟨s, g, h1⟩, dr1⟩⟩, fun _ => kk1⟩
    · rw [if_pos rfl, if_pos rfl]
      by_cases c6 : t = 60
      · have y6 : y = 60 := Int32.toInt_inj.mp (by omega)
        subst y6
        rw [if_pos rfl]
        obtain ⟨x, v, ξ2, ex, ev, f2, h2, p2, c⟩ := pHere h1
        have mf2 := mf1.trF f2.wF
        unfold fX2_readStatement
        simp only [zLt]
        rw [ex, zBd_some, ev, zBp_some]
        have fin : ∀ (z0 : Int32), z0 = 1 ∨ z0 = 6 → (∀ ν, fX7_refuse z0 (μ 1 5) μ = some (0, ν) → ∃ v μ' ξ', zBp (fX7_refuse z0 (μ 1 5) μ) (fun x4 μ5 => (if x4 = 0 then (some ((0 : Int32), μ5)) else (fX2_read_l16 (m + 1) ((60 : Int32) + 1) μ5))) = some (v, μ') ∧ fX12_net_n68 (fX12_net_l33 (m + 1)) (60 : Int32) z0 ξ2 = fX12_net_n92 ξ' ∧ Both b n μ ξ v μ' ξ' ∧ (v = 1 → K T C ξ')) := fun z0 hz ν hν => by
          obtain ⟨p, q1, q2, q3, q4⟩ := h2.2.2.2.2.1
          obtain ⟨⟨x, ζ⟩, eζ, t, k1, k2, k3, k4⟩ := mNext h2.2.2.2.1 q1 q2
          have et : t = s := Skp.uniq k1 q3
          subst et
          have k2 : x.toInt = t := k2
          have k3 : (ζ 267 4).toInt = t := k3
          have k4 : MF p4 ξ2 ζ := k4
          obtain ⟨χ, z0', z1, z2, z3⟩ := mFail (k := z0) (p := x) (ξ := ζ) (by rw [k4.2 6 (by unfold p4; omega)]; exact h2.2.2.2.2.2.2)
          obtain ⟨ν', r1, r2, r3, r4⟩ := cRefuse (k := z0) (p := μ 1 5) (μ := μ)
          have f : MF pF ξ2 χ := k4.tr z3 (fun i w => by unfold p4 at w; unfold pF; omega) (fun i w => by unfold pF; omega)
          have bz : χ 267 6 ≠ 0 := by
            rw [z1]
            rcases hz with rfl | rfl <;> decide
          unfold fX12_net_n68 fX12_net_n75
          rw [r1, zBp_some, if_pos rfl, eζ, zBp_some, z0', zBd_some, mFine0 bz, zBd_some, if_pos rfl]
          simp only [zLt]
          rw [net_l33_bad bz]
          exact ⟨0, ν', χ, rfl, rfl, bothG r4.xf (mf2.trF f).yf ⟨r2.trans z1.symm, by rw [r3, z2]; exact i_eq h.2.1.1 k2, bz, h2.2.2.2.1.mf f (by unfold pF; omega), t, by rw [z3.2 4 (by omega)]; exact k3, k1.2.1⟩, fun w => absurd w (by decide)⟩
        have n66 : ∀ {f : Int32 → gM → Option (Int32 × gM)}, zBp (fX2_readStatement_n66 (μ 1 5) μ) f = zBp (fX7_refuse 6 (μ 1 5) μ) f := fun {f} => by
          obtain ⟨ν', r1, -⟩ := cRefuse (k := 6) (p := μ 1 5) (μ := μ)
          unfold fX2_readStatement_n66
          rw [r1]
          rfl
        have n1 : ∀ {f : Int32 → gM → Option (Int32 × gM)}, zBp (zBp (fX7_refuse 1 (μ 1 5) μ) (fun x25 μ26 => zCk (x25 == 0 || x25 == 1) ((some (x25, μ26))))) f = zBp (fX7_refuse 1 (μ 1 5) μ) f := fun {f} => by
          obtain ⟨ν', r1, -⟩ := cRefuse (k := 1) (p := μ 1 5) (μ := μ)
          rw [r1]
          rfl
        obtain ⟨ν6, r6, -⟩ := cRefuse (k := 6) (p := μ 1 5) (μ := μ)
        obtain ⟨ν1, r1, -⟩ := cRefuse (k := 1) (p := μ 1 5) (μ := μ)
        have n52 : ∀ y3 : Int32, fX2_readStatement_n52 (60 : Int32) (μ 1 5) y3 μ = fX2_readStatement_n66 (μ 1 5) μ := fun y3 => by
          unfold fX2_readStatement_n52
          rw [if_pos (by decide)]
        rcases c with ⟨k, c, kc, rfl, rfl, wd, l⟩ | ⟨rfl, x0, x1, x2, x7, x11⟩
        · rcases kc with ⟨rfl, rfl⟩ | ⟨rfl, rfl⟩ | ⟨rfl, rfl⟩ | ⟨rfl, rfl⟩ | ⟨rfl, rfl⟩
          · rw [if_pos (show nI 0 = 0 from rfl), if_neg (show ¬ nI 0 = -1 by decide), n52, n66]
            exact fin 6 (Or.inr rfl) ν6 r6
          · rw [if_neg (show ¬ nI 1 = 0 by decide), if_pos (show nI 1 = 1 from rfl), if_neg (show ¬ nI 1 = -1 by decide), n52, n66]
            exact fin 6 (Or.inr rfl) ν6 r6
          · rw [if_neg (show ¬ nI 2 = 0 by decide), if_neg (show ¬ nI 2 = 1 by decide), if_pos (show nI 2 = 2 from rfl), if_neg (show ¬ nI 2 = -1 by decide), n52, n66]
            exact fin 6 (Or.inr rfl) ν6 r6
          · rw [if_neg (show ¬ nI 7 = 0 by decide), if_neg (show ¬ nI 7 = 1 by decide), if_neg (show ¬ nI 7 = 2 by decide), if_pos (show nI 7 = 7 from rfl), if_neg (show ¬ nI 3 = -1 by decide), n52, n66]
            exact fin 6 (Or.inr rfl) ν6 r6
          · rw [if_neg (show ¬ nI 11 = 0 by decide), if_neg (show ¬ nI 11 = 1 by decide), if_neg (show ¬ nI 11 = 2 by decide), if_neg (show ¬ nI 11 = 7 by decide), if_pos (show nI 11 = 11 from rfl), if_neg (show ¬ nI 4 = -1 by decide), n52, n66]
            exact fin 6 (Or.inr rfl) ν6 r6
        · rw [if_neg x0, if_neg x1, if_neg x2, if_neg x7, if_neg x11, if_pos rfl, n1]
          exact fin 1 (Or.inl rfl) ν1 r1
      · rw [if_neg (fun w => c6 (by rw [w] at hy; omega))]
        unfold fX12_net_n75
        obtain ⟨w, μ2, ξ2, w1, w2, w3⟩ := pStatement (told := y) (by omega) h1 dr1
        rw [mFine1 h1.2.2.2.2.2.2, zBd_some, if_neg one_n0, w1, w2, zBp_some, zBd_some]
        simp only [zLt]
        have nx : (y + 1).toInt = ((t + 1 : Nat) : Int) := (iA hy (iL (1) (1) rfl) (by omega) (by omega)).trans (by omega)
        have w4 := w3.pre (CF.rf μ) mf1
        rcases id w3.2.2 with ⟨rfl, ⟨s2, g2, h2⟩, dr2⟩ | ⟨rfl, fl⟩
        · rw [if_neg one_n0]
          have kk2 : K T C ξ2 := by
            obtain ⟨r, er, pr⟩ := tX12_statement kk1
            rw [w2] at er
            obtain rfl := Option.some.inj er
            exact pr
          obtain ⟨v, μ', ξ', x1, x2, x3, x4⟩ := ih (t + 1) s2 g2 (y + 1) μ2 ξ2 nx (by omega) (by omega) h2 dr2 kk2
          exact ⟨v, μ', ξ', x1, x2, ⟨w4.1.tr x3.1, w4.2.1.tr x3.2.1, x3.2.2⟩, x4⟩
        · rw [if_pos rfl, net_l33_bad fl.2.2.1]
          exact ⟨0, μ2, ξ2, rfl, rfl, w4, fun w => absurd w (by decide)⟩
