/-! an event, and all of them -/
theorem pTk {b : Nat → Nat} {n s k : Nat} {g : Int} {μ ξ : gM} {w : Int32} (hk : k < 21) (hw : w = Wm k) (h : SIM b n s g μ ξ) : ∃ (y : Int32) (ξ' : gM), fX12_takes w ξ = some (y, ξ') ∧ MF pF ξ ξ' ∧ ((WD b n s g k ∧ y = 1 ∧ ∃ μ' s' g', fX7_advance μ = some μ' ∧ LF μ μ' ∧ SIM b n s' g' μ' ξ') ∨ (¬ WD b n s g k ∧ y = 0 ∧ SIM b n s g μ ξ')) := by
  obtain ⟨y, ξ1, e1, f1, h1, p1, c⟩ := pIsW hk hw h
  unfold fX12_takes
  rw [e1, zBp_some]
  rcases c with ⟨d, rfl, l⟩ | ⟨d, rfl⟩
  · rw [if_neg one_n0]
    obtain ⟨μ', ξ', a1, a2, a3, a4, s', g', sm⟩ := pAdv h1 d p1 l
    rw [a2, zBd_some]
    exact ⟨1, ξ', rfl, f1.wF.trF a4, Or.inl ⟨d, rfl, μ', s', g', a1, a3, sm⟩⟩
  · rw [if_pos rfl]
    exact ⟨0, ξ1, rfl, f1.wF, Or.inr ⟨d, rfl, h1⟩⟩
theorem pEventR {b : Nat → Nat} {n s c : Nat} {g : Int} {μ ξ : gM} {at' : Int32} (hc : c < 20) (h : SIM b n s g μ ξ) (nt : NET μ ξ) (pd : PD c μ ξ) (rd : RDY c at' ξ) : ∃ v μ' ξ', cEnd (fX6_readEvent at' μ) = some (v, μ') ∧ fX12_eventRead_n100 (nI c) ξ = some ξ' ∧ BP b n c μ ξ v μ' ξ' := by
  obtain ⟨x, ex, px⟩ := cOwn h.2.1 h.2.2.1
  have yes : ∀ k, k < 21 → WD b n s g k → x = nI k := fun k hk d => by
    rcases px with ⟨j, hj, u1, u2⟩ | ⟨u1, u2⟩
    · rw [u1, WD.uniq hj hk u2 d]
    · exact absurd d (u2 k hk)
  unfold fX6_readEvent fX12_eventRead_n100
  rw [ex, zBd_some]
  obtain ⟨y1, ξ1, e1, f1, c1⟩ := pTk (k := 15) (w := 688) (by decide) rfl h
  rw [e1, zBp_some]
  rcases c1 with ⟨d, rfl, μ1, s1, g1, a1, lf, sm⟩ | ⟨d1, rfl, h1⟩
  · rw [if_neg one_n0, yes 15 (by decide) d, if_neg (show ¬ nI 15 = 9 by decide), if_neg (show ¬ nI 15 < 15 by decide), if_pos (show nI 15 ≤ 20 by decide)]
    unfold fX6_readEvent_n42
    rw [a1, zBd_some, if_neg (show ¬ nI 15 = 9 by decide), show nI 15 - (15 : Int32) = 0 from rfl]
    unfold fX6_readEvent_n64
    rw [if_neg (by decide), if_neg (by decide), if_neg (by decide), if_neg (by decide)]
    obtain ⟨v, μ', ξ', x1, x2, x3⟩ := pKnEv (at' := at') (t := 0) (a := 0) (what := 0) (by decide) rfl hc sm (nt.xy lf.cf.xp f1.yp) (pd.cm lf.cf f1) (rd.cm f1) (fun r w r0 r1 wl r2 => ⟨r0, Or.inl ⟨r1, w, wl, r2⟩⟩)
    exact ⟨v, μ', ξ', x1, x2, x3.pre lf.cf f1⟩
  rw [if_pos rfl]
  obtain ⟨y2, ξ2, e2, fa, c2⟩ := pTk (k := 16) (w := 147182) (by decide) rfl h1
  have f2 := f1.trF fa
  rw [e2, zBp_some]
  rcases c2 with ⟨d, rfl, μ1, s1, g1, a1, lf, sm⟩ | ⟨d2, rfl, h2⟩
  · rw [if_neg one_n0, yes 16 (by decide) d, if_neg (show ¬ nI 16 = 9 by decide), if_neg (show ¬ nI 16 < 15 by decide), if_pos (show nI 16 ≤ 20 by decide)]
    unfold fX6_readEvent_n42
    rw [a1, zBd_some, if_neg (show ¬ nI 16 = 9 by decide), show nI 16 - (15 : Int32) = 1 from rfl]
    unfold fX6_readEvent_n64
    rw [if_neg (by decide), if_neg (by decide), if_neg (by decide), if_neg (by decide)]
    obtain ⟨v, μ', ξ', x1, x2, x3⟩ := pKnEv (at' := at') (t := 0) (a := 0) (what := 1) (by decide) rfl hc sm (nt.xy lf.cf.xp f2.yp) (pd.cm lf.cf f2) (rd.cm f2) (fun r w r0 r1 wl r2 => ⟨r0, Or.inr (Or.inl ⟨r1, w, wl, r2⟩)⟩)
    exact ⟨v, μ', ξ', x1, x2, x3.pre lf.cf f2⟩
  rw [if_pos rfl]
  obtain ⟨y3, ξ3, e3, fa, c3⟩ := pTk (k := 17) (w := 3764) (by decide) rfl h2
  have f3 := f2.trF fa
  rw [e3, zBp_some]
  rcases c3 with ⟨d, rfl, μ1, s1, g1, a1, lf, sm⟩ | ⟨d3, rfl, h3⟩
  · rw [if_neg one_n0, yes 17 (by decide) d, if_neg (show ¬ nI 17 = 9 by decide), if_neg (show ¬ nI 17 < 15 by decide), if_pos (show nI 17 ≤ 20 by decide)]
    unfold fX6_readEvent_n42
    rw [a1, zBd_some, if_neg (show ¬ nI 17 = 9 by decide), show nI 17 - (15 : Int32) = 2 from rfl]
    unfold fX6_readEvent_n64
    rw [if_neg (by decide), if_neg (by decide), if_neg (by decide), if_pos (by decide)]
    obtain ⟨v, μ', ξ', x1, x2, x3⟩ := pKnEv (at' := at') (t := 1) (a := 1) (what := 2) (by decide) rfl hc sm (nt.xy lf.cf.xp f3.yp) (pd.cm lf.cf f3) (rd.cm f3) (fun r w r0 r1 wl r2 => ⟨r0, Or.inr (Or.inr (Or.inl r1))⟩)
    exact ⟨v, μ', ξ', x1, x2, x3.pre lf.cf f3⟩
  rw [if_pos rfl]
  obtain ⟨y4, ξ4, e4, fa, c4⟩ := pTk (k := 18) (w := 431556) (by decide) rfl h3
  have f4 := f3.trF fa
  rw [e4, zBp_some]
  rcases c4 with ⟨d, rfl, μ1, s1, g1, a1, lf, sm⟩ | ⟨d4, rfl, h4⟩
  · rw [if_neg one_n0, yes 18 (by decide) d, if_neg (show ¬ nI 18 = 9 by decide), if_neg (show ¬ nI 18 < 15 by decide), if_pos (show nI 18 ≤ 20 by decide)]
    unfold fX6_readEvent_n42
    rw [a1, zBd_some, if_neg (show ¬ nI 18 = 9 by decide), show nI 18 - (15 : Int32) = 3 from rfl]
    unfold fX6_readEvent_n64
    rw [if_neg (by decide), if_neg (by decide), if_neg (by decide), if_pos (by decide)]
    obtain ⟨v, μ', ξ', x1, x2, x3⟩ := pKnEv (at' := at') (t := 1) (a := 1) (what := 3) (by decide) rfl hc sm (nt.xy lf.cf.xp f4.yp) (pd.cm lf.cf f4) (rd.cm f4) (fun r w r0 r1 wl r2 => ⟨r0, Or.inr (Or.inr (Or.inr (Or.inl r1)))⟩)
    exact ⟨v, μ', ξ', x1, x2, x3.pre lf.cf f4⟩
  rw [if_pos rfl]
  obtain ⟨y5, ξ5, e5, fa, c5⟩ := pTk (k := 19) (w := 20459828) (by decide) rfl h4
  have f5 := f4.trF fa
  rw [e5, zBp_some]
  rcases c5 with ⟨d, rfl, μ1, s1, g1, a1, lf, sm⟩ | ⟨d5, rfl, h5⟩
  · rw [if_neg one_n0, yes 19 (by decide) d, if_neg (show ¬ nI 19 = 9 by decide), if_neg (show ¬ nI 19 < 15 by decide), if_pos (show nI 19 ≤ 20 by decide)]
    unfold fX6_readEvent_n42
    rw [a1, zBd_some, if_neg (show ¬ nI 19 = 9 by decide), show nI 19 - (15 : Int32) = 4 from rfl]
    unfold fX6_readEvent_n64
    rw [if_neg (by decide), if_neg (by decide), if_pos rfl]
    obtain ⟨v, μ', ξ', x1, x2, x3⟩ := pSplitEv (at' := at') hc sm (nt.xy lf.cf.xp f5.yp) (pd.cm lf.cf f5) (rd.cm f5)
    exact ⟨v, μ', ξ', x1, x2, x3.pre lf.cf f5⟩
  rw [if_pos rfl]
  obtain ⟨y6, ξ6, e6, fa, c6⟩ := pTk (k := 20) (w := 267308) (by decide) rfl h5
  have f6 := f5.trF fa
  rw [e6, zBp_some]
  rcases c6 with ⟨d, rfl, μ1, s1, g1, a1, lf, sm⟩ | ⟨d6, rfl, h6⟩
  · rw [if_neg one_n0, yes 20 (by decide) d, if_neg (show ¬ nI 20 = 9 by decide), if_neg (show ¬ nI 20 < 15 by decide), if_pos (show nI 20 ≤ 20 by decide)]
    unfold fX6_readEvent_n42
    rw [a1, zBd_some, if_neg (show ¬ nI 20 = 9 by decide), show nI 20 - (15 : Int32) = 5 from rfl]
    unfold fX6_readEvent_n64
    rw [if_neg (by decide), if_pos rfl]
    obtain ⟨μ2, ξ2, b1, b2, x2, y2, -, sm2, kp2, pd2⟩ := pLay (at' := at') (a2 := 5) (a3 := -1) (a4 := -1) (a5 := -1) hc sm (pd.cm lf.cf f6) (rd.cm f6) (fun r r0 r1 r2 r3 r4 => ⟨by rw [r0]; exact rd.2.1, Or.inr (Or.inr (Or.inr (Or.inr (Or.inr (Or.inl r1)))))⟩)
    rw [b1, b2, zBd_some, zBd_some]
    exact pFinP ⟨lf.cf.xp.tr x2, f6.yp.tr y2, Or.inl ⟨rfl, ⟨s1, g1, sm2⟩, pd2, by rw [kp2, f6.1 271 (by decide)]⟩⟩
  rw [if_pos rfl]
  obtain ⟨y7, ξ7, e7, fa, c7⟩ := pTk (k := 9) (w := 769604) (by decide) rfl h6
  have f7 := f6.trF fa
  rw [e7, zBp_some]
  rcases c7 with ⟨d, rfl, μ1, s1, g1, a1, lf, sm⟩ | ⟨d7, rfl, h7⟩
  · rw [if_neg one_n0, yes 9 (by decide) d, if_pos (show nI 9 = 9 from rfl)]
    unfold fX6_readEvent_n42
    rw [a1, zBd_some, if_pos (show nI 9 = 9 from rfl)]
    unfold fX6_readEvent_n64
    rw [if_pos rfl]
    obtain ⟨v, μ', ξ', x1, x2, x3⟩ := pWordEv (at' := at') hc sm (nt.xy lf.cf.xp f7.yp) (pd.cm lf.cf f7) (rd.cm f7)
    exact ⟨v, μ', ξ', x1, x2, x3.pre lf.cf f7⟩
  rw [if_pos rfl]
  rw [mFine1 h7.2.2.2.2.2.2, zBd_some, if_neg one_n0]
  have en : (if x = 9 then fX6_readEvent_n42 at' x μ else (if x < 15 then fX6_readEvent_n26 μ else (if x ≤ 20 then fX6_readEvent_n42 at' x μ else fX6_readEvent_n26 μ))) = fX6_readEvent_n26 μ := by
    rcases px with ⟨k, hk, u1, u2⟩ | ⟨u1, u2⟩
    · have k9 : k ≠ 9 := fun w => d7 (by rw [← w]; exact u2)
      have k15 : k < 15 := by
        have : k ≠ 15 ∧ k ≠ 16 ∧ k ≠ 17 ∧ k ≠ 18 ∧ k ≠ 19 ∧ k ≠ 20 := ⟨fun w => d1 (by rw [← w]; exact u2), fun w => d2 (by rw [← w]; exact u2), fun w => d3 (by rw [← w]; exact u2), fun w => d4 (by rw [← w]; exact u2), fun w => d5 (by rw [← w]; exact u2), fun w => d6 (by rw [← w]; exact u2)⟩
        omega
      rw [u1, if_neg (show ¬ nI k = (9 : Int32) from fun w => k9 (nI_inj (b := 9) (by omega) (by omega) w)), if_pos (Int32.lt_iff_toInt_lt.mpr (by rw [tN (by omega)]; show (k : Int) < 15; omega))]
    · rw [u1, if_neg (by decide), if_pos (by decide)]
  rw [en]
  obtain ⟨p, q1, q2, q3, q4⟩ := h7.2.2.2.2.1
  obtain ⟨ζ, eζ, t, k1, k2, k3, k4, k5⟩ := mUnlike h7.2.2.2.1 q1 q2 h7.2.2.2.2.2.2
  have et : t = s := Skp.uniq k1 q3
  obtain ⟨ν, r1, r2, r3, r4⟩ := cRefuse (k := 1) (p := μ 1 5) (μ := μ)
  have bz : ζ 267 6 ≠ 0 := by rw [k2]; decide
  have e26 : fX6_readEvent_n26 μ = some (0, ν) := by
    unfold fX6_readEvent_n26
    rw [r1, zBp_some]
    rfl
  rw [e26, cEnd0, eζ, zBd_some, n284_bad bz]
  exact ⟨0, ν, ζ, rfl, rfl, r4.xp, (f7.trF k4).yp, Or.inr ⟨rfl, r2.trans k2.symm, by rw [r3]; exact i_eq h.2.1.1 (by rw [k3, et]), bz, h7.2.2.2.1.mf k4 (by unfold pF; omega), t, k5, k1.2.1⟩⟩
theorem cEndK {o : Option (Int32 × gM)} {v : Int32} {μ' : gM} {F : gM → Option (Int32 × gM)} (h : cEnd o = some (v, μ')) : zBp o (fun x6 μ7 => (if x6 = 0 then (some ((0 : Int32), μ7)) else zBp (fX7_passStop μ7) (fun x8 μ9 => (if x8 = 0 then (some ((0 : Int32), μ9)) else F μ9)))) = if v = 0 then some (0, μ') else F μ' := by
  unfold cEnd at h
  obtain ⟨x6, μ7, eo, h⟩ := bpI h
  rw [eo, zBp_some]
  by_cases c : x6 = 0
  · rw [if_pos c] at h
    obtain ⟨rfl, rfl⟩ := Prod.mk.inj (Option.some.inj h)
    rw [if_pos c, if_pos rfl]
  · rw [if_neg c] at h
    rw [if_neg c]
    obtain ⟨x8, μ9, e, h⟩ := bpI h
    rw [e, zBp_some]
    by_cases c8 : x8 = 0
    · rw [if_pos c8] at h
      obtain ⟨rfl, rfl⟩ := Prod.mk.inj (Option.some.inj h)
      rw [if_pos c8, if_pos rfl]
    · rw [if_neg c8] at h
      obtain ⟨rfl, rfl⟩ := Prod.mk.inj (Option.some.inj h)
      rw [if_neg c8, if_neg one_n0]
theorem n100_bad {c : Nat} {ξ : gM} (hb : ξ 267 6 ≠ 0) : fX12_eventRead_n100 (nI c) ξ = some ξ := by
  unfold fX12_eventRead_n100
  rw [bTakes hb, zBp_some, if_pos rfl, bTakes hb, zBp_some, if_pos rfl, bTakes hb, zBp_some, if_pos rfl, bTakes hb, zBp_some, if_pos rfl, bTakes hb, zBp_some, if_pos rfl, bTakes hb, zBp_some, if_pos rfl, bTakes hb, zBp_some, if_pos rfl, mFine0 hb, zBd_some, if_pos rfl, n284_bad hb]
theorem n84_bad {c : Nat} {y : Int32} {ξ : gM} (hb : ξ 267 6 ≠ 0) : fX12_eventRead_n84 (nI c) y ξ = some ξ := by
  unfold fX12_eventRead_n84
  rw [mFine0 hb, zBd_some, if_pos rfl, n100_bad hb]
theorem n29_bad {c : Nat} {ξ : gM} (hb : ξ 267 6 ≠ 0) : fX12_eventRead_n29 (nI c) ξ = some ξ := by
  unfold fX12_eventRead_n29
  rw [mFine0 hb, zBd_some, if_pos rfl]
theorem MP.next {b : Nat → Nat} {n : Nat} {ξ : gM} (m : MP b n ξ) : ∃ x ζ, fX12_next ξ = some (x, ζ) ∧ MF p4 ξ ζ ∧ MP b n ζ := by
  obtain ⟨m1, p, q1, q2⟩ := m
  obtain ⟨⟨x, ζ⟩, e, t, k1, k2, k3, k4⟩ := mNext m1 q1 q2
  have k4 : MF p4 ξ ζ := k4
  exact ⟨x, ζ, e, k4, m1.mf k4 (by unfold p4; omega), t, k3, k1.2.1⟩
theorem n13_bad {b : Nat → Nat} {n c : Nat} {μ ξ : gM} (f : FLT b n μ ξ) : ∃ ζ, fX12_eventRead_n13 (nI c) ξ = some ζ ∧ BF ξ ζ ∧ FLT b n μ ζ := by
  unfold fX12_eventRead_n13
  by_cases c20 : nI c = 20
  · rw [if_pos c20]
    obtain ⟨x, ζ, e, k, m⟩ := f.2.2.2.next
    have bz : ζ 267 6 ≠ 0 := by rw [k.2 6 (by unfold p4; omega)]; exact f.2.2.1
    have bf : BF ξ ζ := k.tr (MF.rf (P := fun i => i = 4 ∨ i = 12 ∨ i = 16) _) (fun i w => Or.inl w) (fun _ w => w)
    have ff : fX12_fail 6 x ζ = some ζ := by unfold fX12_fail; rw [if_neg bz]
    rw [e, zBp_some, ff, zBd_some, n29_bad bz]
    exact ⟨ζ, rfl, bf, f.bf bf m⟩
  · rw [if_neg c20, n29_bad f.2.2.1]
    exact ⟨ξ, rfl, BF.rf _, f⟩
def BQ (b : Nat → Nat) (n c : Nat) (μ ξ : gM) (v : Int32) (μ' ξ' : gM) : Prop := XP μ μ' ∧ YP ξ ξ' ∧ ((v = 1 ∧ (∃ s' g', SIM b n s' g' μ' ξ') ∧ PD c μ' ξ') ∨ (v = 0 ∧ FLT b n μ' ξ'))
def FRM (c : Nat) (from' : Int32) (ξ : gM) : Prop := 0 ≤ from'.toInt ∧ (c = 0 → from' = 0) ∧ (0 < c → from' = ξ 271 (5 * (c - 1)))
def cAll (c from' : Int32) (F : Int32 → gM → Option (Int32 × gM)) (μ : gM) : Option (Int32 × gM) := zBp (fX6_readAt c from' μ) (fun x4 μ5 => (if x4 = (-1 : Int32) then (some ((0 : Int32), μ5)) else zBp (fX6_readEvent x4 μ5) (fun x6 μ7 => (if x6 = 0 then (some ((0 : Int32), μ7)) else zBp (fX7_passStop μ7) (fun x8 μ9 => (if x8 = 0 then (some ((0 : Int32), μ9)) else F x4 μ9))))))
theorem pAtEv {b : Nat → Nat} {n s c : Nat} {g : Int} {μ ξ : gM} {from' : Int32} (hc : c ≤ 20) (h : SIM b n s g μ ξ) (nt : NET μ ξ) (pd : PD c μ ξ) (fr : FRM c from' ξ) : ∃ v a μ' ξ', (∀ F, cAll (nI c) from' F μ = if v = 0 then some (0, μ') else F a μ') ∧ fX12_eventRead (nI c) ξ = some ξ' ∧ BQ b n (c + 1) μ ξ v μ' ξ' ∧ (v = 1 → c < 20 ∧ FRM (c + 1) a ξ') := by
  obtain ⟨x, ex, px⟩ := cOwn h.2.1 h.2.2.1
  unfold cAll fX6_readAt fX12_eventRead fX7_pass
  obtain ⟨y, ξ1, e1, f1, h1, p1, cw⟩ := pIsW (k := 14) (w := 52) (by decide) rfl h
  have m1 := f1.wF
  rw [e1, zBp_some, ex, zBd_some]
  rcases cw with ⟨d, rfl, l⟩ | ⟨d, rfl⟩
  · have x14 : x = 14 := by
      rcases px with ⟨j, hj, u1, u2⟩ | ⟨u1, u2⟩
      · rw [u1, WD.uniq hj (by decide) u2 d]; rfl
      · exact absurd d (u2 14 (by decide))
    obtain ⟨μ2, ξ2, a1, a2, lf, m2, s2, g2, sm⟩ := pAdv h1 d p1 l
    have ep : ∀ G : Int32 → gM → Option (Int32 × gM), zBp (if x = (14 : Int32) then zBd (fX7_advance μ) (fun μ2 => (some ((1 : Int32), μ2))) else zBp (fX7_refuse (1 : Int32) (μ 1 5) μ) (fun x3 μ4 => zCk (x3 == 0 || x3 == 1) ((some (x3, μ4))))) G = G 1 μ2 := fun G => by
      rw [if_pos x14, a1, zBd_some, zBp_some]
    rw [if_neg one_n0]
    unfold fX12_eventRead_n13
    by_cases c20 : c = 20
    · subst c20
      obtain ⟨p, q1, q2, q3, q4⟩ := h1.2.2.2.2.1
      obtain ⟨⟨xn, ζ⟩, eζ, t, k1, k2, k3, k4⟩ := mNext h1.2.2.2.1 q1 q2
      have et : t = s := Skp.uniq k1 q3
      subst et
      have k2 : xn.toInt = t := k2
      have k4 : MF p4 ξ1 ζ := k4
      obtain ⟨χ, z0, z1, z2, z3⟩ := mFail (k := 6) (p := xn) (ξ := ζ) (by rw [k4.2 6 (by unfold p4; omega)]; exact h1.2.2.2.2.2.2)
      have bz : χ 267 6 ≠ 0 := by rw [z1]; decide
      obtain ⟨ν, r1, r2, r3, r4⟩ := cRefuse (k := 6) (p := μ 1 5) (μ := μ2)
      have f : MF pF ξ1 χ := k4.tr z3 (fun i w => by unfold p4 at w; unfold pF; omega) (fun i w => by unfold pF; omega)
      rw [if_pos (show nI 20 = 20 from rfl), eζ, zBp_some, z0, zBd_some, n29_bad bz]
      refine ⟨0, 0, ν, χ, fun F => ?_, rfl, ⟨lf.cf.xp.tr r4.xp, (m1.trF f).yp, Or.inr ⟨rfl, r2.trans z1.symm, by rw [r3, z2]; exact i_eq h.2.1.1 k2, bz, h1.2.2.2.1.mf f (by unfold pF; omega), t, by rw [z3.2 4 (by omega)]; exact k3, k1.2.1⟩⟩, fun w => absurd w (by decide)⟩
      rw [zLt_eq, ep, if_neg one_n0, if_neg (show ¬ nI 20 < 20 by decide), r1, zBp_some, zBp_some, if_pos rfl, if_pos rfl]
    · have c19 : c < 20 := by omega
      have lt : nI c < (20 : Int32) := Int32.lt_iff_toInt_lt.mpr (by rw [tN (by omega)]; show (c : Int) < 20; omega)
      rw [if_neg (show ¬ nI c = (20 : Int32) from fun w => c20 (nI_inj (b := 20) (by omega) (by omega) w))]
      unfold fX12_eventRead_n29
      rw [mFine1 h1.2.2.2.2.2.2, zBd_some, if_neg one_n0, a2, zBd_some]
      obtain ⟨xn, yn, μ3, ξ3, n1, n2, cf3, m3, cs⟩ := pFrom (lo := from') fr.1 sm
      have ec : ∀ F, zBp (zLt (μ 1 5) fun x1 => zBp (if x = (14 : Int32) then zBd (fX7_advance μ) (fun μ2 => (some ((1 : Int32), μ2))) else zBp (fX7_refuse (1 : Int32) (μ 1 5) μ) (fun x3 μ4 => zCk (x3 == 0 || x3 == 1) ((some (x3, μ4))))) fun x2 μ3 => if x2 = 0 then some (-1, μ3) else if nI c < 20 then zBp (fX7_number from' 9999 μ3) fun x4 μ5 => some (x4, μ5) else zBp (fX7_refuse 6 x1 μ3) fun x6 μ7 => some (-1, μ7)) F = (F xn μ3 : Option (Int32 × gM)) := fun F => by
        rw [zLt_eq, ep, if_neg one_n0, if_pos lt, n1, zBp_some, zBp_some]
      have mm : MF pF ξ ξ3 := (m1.trF m2).trF m3
      have cc : CF μ μ3 := lf.cf.tr cf3
      rw [n2, zBp_some]
      have e5 : (5 : Int32) * nI c = nI (5 * c) := by rw [show (5 : Int32) = nI 5 from rfl, pk_mul]
      rcases cs with ⟨rfl, l1, l2, s3, g3, sm3⟩ | ⟨rfl, b0, y0, yl, mp, w7, w8⟩ | ⟨rfl, fl⟩
      · have chk : (if nI c ≤ 0 then fX12_eventRead_n84 (nI c) xn ξ3 else zCk (gIn (((5 : Int32) * nI c) - (5 : Int32)) 100) (if (ξ3 271 ((((5 : Int32) * nI c) - (5 : Int32))).toNatClampNeg) ≤ xn then (fX12_eventRead_n84 (nI c) xn ξ3) else zBd (fX12_fail (4 : Int32) (ξ3 267 12) ξ3) (fun μ53 => (fX12_eventRead_n84 (nI c) xn μ53)))) = fX12_eventRead_n84 (nI c) xn ξ3 := by
          by_cases c0 : c = 0
          · rw [if_pos (by rw [c0]; decide)]
          · have e6 : (5 : Int32) * nI c - (5 : Int32) = nI (5 * (c - 1)) := nI_of' (by
              rw [e5]
              exact (iS (tN (m := 5 * c) (by omega)) (iL (5) (5) rfl) (by omega) (by omega)).trans (by omega))
            have fe := fr.2.2 (by omega)
            rw [if_neg (fun w => by have := Int32.le_iff_toInt_le.mp w; rw [tN (by omega)] at this; have z : (0 : Int32).toInt = 0 := rfl; omega), e6]
            unfold zCk
            rw [if_pos (gI (by omega) (by decide)), nI_clamp (by omega), mm.1 271 (by decide), ← fe, if_pos (Int32.le_iff_toInt_le.mpr l1)]
        rw [mFine1 sm3.2.2.2.2.2.2, zBd_some, if_neg one_n0, chk]
        unfold fX12_eventRead_n84
        rw [mFine1 sm3.2.2.2.2.2.2, zBd_some, if_neg one_n0, e5]
        unfold zCk
        rw [if_pos (gI (by omega) (by decide)), nI_clamp (by omega), zLt_eq]
        generalize eξ : gUp ξ3 271 (5 * c) xn = ξ4
        have o4 : ∀ a, a ≠ 271 → ξ4 a = ξ3 a := fun a ha => by rw [← eξ, zUp_ne _ ha]
        have i4 : ∀ i, i ≠ 5 * c → ξ4 271 i = ξ3 271 i := fun i hi => by rw [← eξ, zUp_slot _ hi]
        have s4 : ξ4 271 (5 * c) = xn := by rw [← eξ, zUp_same]
        have y4 : YP ξ3 ξ4 := ⟨fun a _ h2 => o4 a h2, fun i _ => by rw [o4 267 (by decide)]⟩
        have sm4 : SIM b n s3 g3 μ3 ξ4 := sm3.fr rfl rfl rfl (o4 267 (by decide)) (o4 268 (by decide))
        have pd4 : PD c μ3 ξ4 := (pd.cm cc mm).fr rfl (fun _ _ => rfl) (o4 269 (by decide)) (fun i hi => i4 i (by omega))
        have rd4 : RDY c xn ξ4 := ⟨s4, ⟨by have := fr.1; omega, l2⟩, fun cp => by rw [i4 _ (by omega), mm.1 271 (by decide), ← fr.2.2 cp]; exact l1⟩
        obtain ⟨v, μ', ξ', x1, x2, x3, x4, x5⟩ := pEventR c19 sm4 (nt.xy cc.xp (mm.yp.tr y4)) pd4 rd4
        have zm : (-1 : Int32).toInt = -1 := rfl
        have xne : ¬ xn = (-1 : Int32) := fun w => by rw [w] at l1; have := fr.1; omega
        refine ⟨v, xn, μ', ξ', fun F => ?_, x2, ⟨cc.xp.tr x3, (mm.yp.tr y4).tr x4, ?_⟩, fun hv => ⟨c19, by have := fr.1; omega, fun w => absurd w (by omega), fun _ => ?_⟩⟩
        · refine (ec _).trans ?_
          rw [if_neg xne]
          exact cEndK x1
        · rcases x5 with ⟨w1, w2, w3, w4⟩ | w
          · exact Or.inl ⟨w1, w2, w3⟩
          · exact Or.inr w
        · rcases x5 with ⟨w1, w2, w3, w4⟩ | ⟨w, -⟩
          · rw [show c + 1 - 1 = c by omega, w4, s4]
          · rw [hv] at w; exact absurd w (by decide)
      · have cp : 0 < c := by
          rcases Nat.eq_zero_or_pos c with c0 | c0
          · have := fr.2.1 c0
            rw [this] at yl
            have z : (0 : Int32).toInt = 0 := rfl
            omega
          · exact c0
        have e6 : (5 : Int32) * nI c - (5 : Int32) = nI (5 * (c - 1)) := nI_of' (by
          rw [e5]
          exact (iS (tN (m := 5 * c) (by omega)) (iL (5) (5) rfl) (by omega) (by omega)).trans (by omega))
        have fe := fr.2.2 cp
        obtain ⟨ζ, z0, z1, z2, z3⟩ := mFail (k := 4) (p := ξ3 267 12) (ξ := ξ3) b0
        have bz : ζ 267 6 ≠ 0 := by rw [z1]; decide
        have mz : MF pF ξ3 ζ := z3.tr (MF.rf (P := pF) _) (fun i w => by unfold pF; omega) (fun _ w => w)
        rw [mFine1 b0, zBd_some, if_neg one_n0, if_neg (show ¬ nI c ≤ (0 : Int32) from fun w => by have := Int32.le_iff_toInt_le.mp w; rw [tN (by omega)] at this; have z : (0 : Int32).toInt = 0 := rfl; omega), e6]
        unfold zCk
        rw [if_pos (gI (by omega) (by decide)), nI_clamp (by omega), mm.1 271 (by decide), ← fe, if_neg (show ¬ from' ≤ yn from fun w => by have := Int32.le_iff_toInt_le.mp w; omega), z0, zBd_some, n84_bad bz]
        obtain ⟨mt, p, q1, q2⟩ := mp
        refine ⟨0, 0, μ3, ζ, fun F => ?_, rfl, ⟨cc.xp, (mm.trF mz).yp, Or.inr ⟨rfl, w7.trans z1.symm, w8.trans z2.symm, bz, mt.mf mz (by unfold pF; omega), p, by rw [z3.2 4 (by omega)]; exact q1, q2⟩⟩, fun w => absurd w (by decide)⟩
        have := ec (fun x4 μ5 => (if x4 = (-1 : Int32) then (some ((0 : Int32), μ5)) else zBp (fX6_readEvent x4 μ5) (fun x6 μ7 => (if x6 = 0 then (some ((0 : Int32), μ7)) else zBp (fX7_passStop μ7) (fun x8 μ9 => (if x8 = 0 then (some ((0 : Int32), μ9)) else F x4 μ9))))))
        rw [if_pos rfl] at this
        rw [if_pos rfl]
        exact this
      · rw [mFine0 fl.2.2.1, zBd_some, if_pos rfl, n84_bad fl.2.2.1]
        refine ⟨0, 0, μ3, ξ3, fun F => ?_, rfl, ⟨cc.xp, mm.yp, Or.inr ⟨rfl, fl⟩⟩, fun w => absurd w (by decide)⟩
        refine (ec _).trans ?_
        rw [if_pos rfl, if_pos rfl]
  · have xn : x ≠ 14 := fun w => by
      rcases px with ⟨j, hj, u1, u2⟩ | ⟨u1, u2⟩
      · rw [u1] at w
        have := nI_inj (b := 14) (by omega) (by omega) w
        subst this
        exact d u2
      · rw [u1] at w; exact absurd w (by decide)
    obtain ⟨p, q1, q2, q3, q4⟩ := h1.2.2.2.2.1
    obtain ⟨ζ, eζ, t, k1, k2, k3, k4, k5⟩ := mUnlike h1.2.2.2.1 q1 q2 h1.2.2.2.2.2.2
    have et : t = s := Skp.uniq k1 q3
    obtain ⟨ν, r1, r2, r3, r4⟩ := cRefuse (k := 1) (p := μ 1 5) (μ := μ)
    have bz : ζ 267 6 ≠ 0 := by rw [k2]; decide
    have fl : FLT b n ν ζ := ⟨r2.trans k2.symm, by rw [r3]; exact i_eq h.2.1.1 (by rw [k3, et]), bz, h1.2.2.2.1.mf k4 (by unfold pF; omega), t, k5, k1.2.1⟩
    obtain ⟨χ, e3, bf, fx⟩ := n13_bad (c := c) fl
    rw [if_pos rfl, eζ, zBd_some, e3]
    refine ⟨0, 0, ν, χ, fun F => ?_, rfl, ⟨r4.xp, (m1.trF k4).yp.tr bf.yp, Or.inr ⟨rfl, fx⟩⟩, fun w => absurd w (by decide)⟩
    rw [zLt_eq, if_neg xn, r1, zBp_some]
    rfl
