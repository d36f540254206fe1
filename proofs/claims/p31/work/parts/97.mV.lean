/-! gates of a split, and a word's event -/
theorem cBadEv {c : Nat} {at' what : Int32} {μ ξ : gM} (hc : c < 20) (pd : PD c μ ξ) : ∃ μ', fX6_readEvent_n129 at' what (-1) μ = some (0, μ') ∧ XP μ μ' ∧ μ' 1 = μ 1 := by
  obtain ⟨μ2, a1, f1, -⟩ := cAdd32 (a1 := at') (a2 := what) (a3 := -1) (a4 := -1) (a5 := -1) hc pd.2.1
  unfold fX6_readEvent_n129
  rw [a1, zBd_some, if_pos rfl]
  exact ⟨μ2, rfl, ⟨fun a _ h2 h3 => f1 a h2 h3, by rw [f1 1 (by decide) (by decide)]⟩, f1 1 (by decide) (by decide)⟩
theorem FLT.c1 {b : Nat → Nat} {n : Nat} {μ ξ μ' : gM} (h : FLT b n μ ξ) (e : μ' 1 = μ 1) : FLT b n μ' ξ := by
  unfold FLT at *
  rw [e]
  exact h
theorem cEnd0 {μ : gM} : cEnd (some (0, μ)) = some (0, μ) := by
  unfold cEnd
  rw [zBp_some, if_pos rfl]
def bcn (m : Nat) : Nat := m % 2 + m / 2 % 2 + m / 4 % 2 + m / 8 % 2 + m / 16 % 2 + m / 32 % 2
theorem bcn_up : ∀ m : Nat, m < 64 → ∀ k : Nat, k < 6 → ¬ ((nI m >>> (nI k &&& 31)) &&& (1 : Int32)) = (1 : Int32) → nI m ||| ((1 : Int32) <<< (nI k &&& 31)) = nI (m + 2 ^ k) ∧ m + 2 ^ k < 64 ∧ bcn (m + 2 ^ k) = bcn m + 1 := by decide +kernel
theorem bcn6 (m : Nat) : bcn m ≤ 6 := by unfold bcn; omega
theorem pName {b : Nat → Nat} {n s : Nat} {g : Int} {μ ξ : gM} (h : SIM b n s g μ ξ) : ∃ (y : Int32) (ξ' : gM), fX12_isName ξ = some (y, ξ') ∧ MF pW ξ ξ' ∧ SIM b n s g μ ξ' ∧ ((fX7_isName μ = some 1 ∧ y = 1 ∧ μ 1 4 = 1) ∨ (fX7_isName μ = some 0 ∧ y = 0)) := by
  obtain ⟨p, q1, q2, q3, q4⟩ := h.2.2.2.2.1
  obtain ⟨⟨y, ξ2⟩, e2, t, k1, k2, k3, k4⟩ := mIsName h.2.2.2.1 q1 q2 h.2.2.2.2.2.2
  have k2 : (ξ2 267 4).toInt = t := k2
  have k3 : MF pW ξ ξ2 := k3
  have et : t = s := Skp.uniq k1 q3
  subst et
  refine ⟨y, ξ2, e2, k3, h.look k3 (by unfold pW; omega) (by unfold pW; omega) (by unfold pW; omega) k2, ?_⟩
  rcases cIsName h.2.1 h.2.2.1 with ⟨e, w1, w2, w3, -⟩ | ⟨w1, w2⟩
  · rcases k4 with ⟨e', v1, v2, -⟩ | ⟨v1, v2⟩
    · exact Or.inl ⟨w2, v2, w3⟩
    · exact absurd ((h.gn e).mp w1) (v1 e)
  · rcases k4 with ⟨e', v1, v2, -⟩ | ⟨v1, v2⟩
    · exact absurd ((h.gn e').mpr v1) (w1 e')
    · exact Or.inr ⟨w2, v2⟩
/-- a faulty end of a split -/
theorem spBad {c m : Nat} {y2 x3 : Int32} {ξ : gM} (hb : ξ 267 6 ≠ 0) : zBd (fX12_splitRead_n51 (fX12_splitRead_l4 (m + 1)) (nI c) y2 x3 ξ) (fun μ31 => fX12_eventRead_n284 μ31) = some ξ := by
  unfold fX12_splitRead_n51
  rw [mFine0 hb, zBd_some, if_pos rfl]
  unfold fX12_splitRead_n65
  rw [mFine0 hb, zBd_some, if_pos rfl, fX12_splitRead_l4, mFine0 hb, zBd_some, if_pos rfl]
  unfold fX12_splitRead_n88
  rw [bLay hb, zBd_some, zBd_some, n284_bad hb]
theorem pSplit_l {b : Nat → Nat} {n c : Nat} {at' : Int32} (hc : c < 20) : ∀ (d i mm m1 m2 s : Nat) (g : Int) (μ ξ : gM), i + d = 7 → i = bcn mm → mm < 64 → 8 < i + m1 → 8 < i + m2 → SIM b n s g μ ξ → NET μ ξ → PD c μ ξ → RDY c at' ξ → ∃ v μ' ξ', cEnd (zBp (fX6_readGates_n24 (fX6_readGates_l4 m1) (nI mm) (nI i) μ) (fun x8 μ9 => fX6_readEvent_n129 at' 4 x8 μ9)) = some (v, μ') ∧ zBd (fX12_splitRead_l4 m2 (nI c) (nI mm) 1 ξ) (fun μ31 => fX12_eventRead_n284 μ31) = some ξ' ∧ BP b n c μ ξ v μ' ξ' := by
  intro d
  induction d with
  | zero =>
    intro i mm m1 m2 s g μ ξ hd hi
    have := bcn6 mm
    exact absurd hd (by omega)
  | succ d ih =>
    intro i mm m1 m2 s g μ ξ hd hi hm f1 f2 h nt pd rd
    have b6 := bcn6 mm
    obtain ⟨m2, rfl⟩ : ∃ m, m2 = m + 1 + 1 := ⟨m2 - 2, by omega⟩
    obtain ⟨m1, rfl⟩ : ∃ m, m1 = m + 1 := ⟨m1 - 1, by omega⟩
    obtain ⟨x, y, μ3, ξ3, u1, u2, cf, mf, pl, u3⟩ := pKnown (p := 4) (q := 269) (t := 0) (a := 0) (by decide) rfl (by decide) h (nt.nt (t := 0) (by decide))
    have pd3 := pd.cm cf mf
    have rd3 := rd.cm mf
    have nt3 : NET μ3 ξ3 := nt.xy cf.xp mf.yp
    rw [fX12_splitRead_l4, mFine1 h.2.2.2.2.2.2, zBd_some, if_neg one_n0, if_neg one_n0, u2, zBp_some]
    unfold fX6_readGates_n24
    rw [zLt_eq, u1, zBp_some]
    rcases u3 with ⟨rfl, ⟨k, rfl, kl⟩, s', g', sm⟩ | ⟨rfl, rfl, fl⟩
    · have c6 : (ξ 269 0).toInt ≤ 6 := by
        obtain ⟨cg, ct, l1, l2, l3, -⟩ := id nt.2.2.2
        exact l3
      have k6 : k < 6 := by omega
      rw [if_neg (nI_nm (by omega)), mFine1 sm.2.2.2.2.2.2, zBd_some, if_neg one_n0]
      by_cases cb : ((nI mm >>> (nI k &&& 31)) &&& (1 : Int32)) = (1 : Int32)
      · have io : fX12_isOf (nI mm) (nI k) ξ3 = some 1 := by unfold fX12_isOf; rw [if_pos cb]
        obtain ⟨ν, r1, r2, r3, r4⟩ := cRefuse (k := 5) (p := μ 1 5) (μ := μ3)
        obtain ⟨ζ, z0, z1, z2, z3⟩ := mFail (k := 5) (p := ξ3 267 16) (ξ := ξ3) sm.2.2.2.2.2.2
        have bz : ζ 267 6 ≠ 0 := by rw [z1]; decide
        rw [if_pos cb, r1, zBp_some, io, zBd_some, if_neg one_n0, z0, zBd_some, spBad bz]
        have mz : MF pF ξ3 ζ := z3.tr (MF.rf (P := pF) _) (fun i w => by unfold pF; omega) (fun _ w => w)
        obtain ⟨μ4, a1, a2, a3⟩ := cBadEv (at' := at') (what := 4) hc (pd3.cm r4 mz)
        rw [zBp_some, a1, cEnd0]
        obtain ⟨p, q1, q2, -⟩ := sm.2.2.2.2.1
        refine ⟨0, μ4, ζ, rfl, rfl, (cf.xp.tr r4.xp).tr a2, mf.yp.tr mz.yp, Or.inr ⟨rfl, FLT.c1 ⟨r2.trans z1.symm, ?_, bz, sm.2.2.2.1.mf mz (by unfold pF; omega), p, by rw [z3.2 4 (by omega)]; exact q1, q2⟩ a3⟩⟩
        rw [r3, z2]
        exact i_eq h.2.1.1 pl
      · have io : fX12_isOf (nI mm) (nI k) ξ3 = some 0 := by unfold fX12_isOf; rw [if_neg cb]
        obtain ⟨v1, v2, v3⟩ := bcn_up mm hm k k6 cb
        have b7 := bcn6 (mm + 2 ^ k)
        rw [if_neg cb, zLt_eq, zLt_eq, io, zBd_some, if_pos rfl, v1, show nI i + (1 : Int32) = nI (i + 1) from nI_1 i]
        unfold fX12_splitRead_n51
        rw [mFine1 sm.2.2.2.2.2.2, zBd_some, if_neg one_n0, zLt_eq, v1]
        unfold fX12_splitRead_n65
        obtain ⟨y8, ξ4, e8, mw, sm4, c8⟩ := pName sm
        have mf4 := mw.wF
        rw [mFine1 sm.2.2.2.2.2.2, zBd_some, if_neg one_n0, e8, zBp_some, fX6_readGates_l4, if_neg (fun w => by have := Int32.lt_iff_toInt_lt.mp w; rw [tN (by omega)] at this; have z6 : (6 : Int32).toInt = 6 := rfl; omega), if_neg (fun w => by have := nI_inj (b := 0) (by omega) (by omega) w; omega)]
        have pd4 := pd3.cm (CF.rf μ3) mf4
        have rd4 := rd3.cm mf4
        have nt4 : NET μ3 ξ4 := nt3.xy (CF.rf μ3).xp mf4.yp
        rcases c8 with ⟨w1, rfl, w3⟩ | ⟨w1, rfl⟩
        · rw [if_neg one_n0]
          have st : fX7_isStop μ3 = some 0 := by unfold fX7_isStop; rw [if_neg (by rw [w3]; decide)]
          rw [st, zBd_some, if_pos rfl]
          obtain ⟨v, μ', ξ', x1, x2, x3⟩ := ih (i + 1) (mm + 2 ^ k) m1 (m2 + 1) s' g' μ3 ξ4 (by omega) (by omega) v2 (by omega) (by omega) sm4 nt4 pd4 rd4
          exact ⟨v, μ', ξ', x1, x2, (x3.pre (CF.rf μ3) mf4).pre cf mf⟩
        · rw [if_pos rfl, fX12_splitRead_l4, mFine1 sm4.2.2.2.2.2.2, zBd_some, if_neg one_n0, if_pos rfl]
          unfold fX12_splitRead_n88
          obtain ⟨μ5, ξ5, a1, a2, x5, y5, a5, sm5, kp5, pd5⟩ := pLay (a2 := 4) (a3 := nI (mm + 2 ^ k)) (a4 := -1) (a5 := -1) hc sm4 pd4 rd4 (fun r r0 r1 r2 r3 r4 => ⟨by rw [r0]; exact rd.2.1, by rw [r1]; exact Or.inr (Or.inr (Or.inr (Or.inr (Or.inl rfl))))⟩)
          rw [a2, zBd_some, zBd_some]
          by_cases cs : μ3 1 4 = 3
          · have st : fX7_isStop μ3 = some 1 := by unfold fX7_isStop; rw [if_pos cs]
            rw [st, zBd_some, if_neg one_n0, zBp_some]
            unfold fX6_readEvent_n129
            rw [a1, zBd_some, if_neg (nI_nm (by omega))]
            exact pFinP ⟨cf.xp.tr x5, (mf.yp.tr mf4.yp).tr y5, Or.inl ⟨rfl, ⟨s', g', sm5⟩, pd5, by rw [kp5, mf4.1 271 (by decide), mf.1 271 (by decide)]⟩⟩
          · have st : fX7_isStop μ3 = some 0 := by unfold fX7_isStop; rw [if_neg cs]
            obtain ⟨ν, r1, r2, r3, r4⟩ := cRefuse (k := 1) (p := μ3 1 5) (μ := μ3)
            have kn : fX7_known 4 0 μ3 = some (-1, ν) := by
              unfold fX7_known
              rw [w1, zBd_some, if_pos rfl, r1, zBp_some]
            rw [st, zBd_some, if_pos rfl]
            unfold fX6_readGates_n24
            rw [zLt_eq, kn, zBp_some, if_pos rfl]
            obtain ⟨w, μ6, ξ6, p1, p2, p3, p4, p5⟩ := pStop sm5
            have p1' := p1
            unfold fX7_passStop at p1'
            obtain ⟨ν6, t1, t2, t3, t4⟩ := cRefuse (k := 1) (p := μ5 1 5) (μ := μ5)
            rw [if_neg (by rw [a5]; exact cs), t1, zBp_some] at p1'
            obtain ⟨rfl, rfl⟩ := Prod.mk.inj (Option.some.inj (ckI p1'))
            rcases p5 with ⟨w0, -⟩ | ⟨-, fl⟩
            · exact absurd w0 (by decide)
            unfold fX12_eventRead_n284
            rw [p2, zBd_some]
            obtain ⟨μ7, b1, b2, b3⟩ := cBadEv (at' := at') (what := 4) hc (pd4.cm r4 (MF.rf (P := pF) ξ4))
            rw [zBp_some, b1, cEnd0]
            refine ⟨0, μ7, ξ6, rfl, rfl, (cf.xp.tr r4.xp).tr b2, ((mf.yp.tr mf4.yp).tr y5).tr p4.yp, Or.inr ⟨rfl, FLT.c1 (μ := ν) ⟨?_, ?_, fl.2.2⟩ b3⟩⟩
            · rw [r2, ← t2]; exact fl.1
            · rw [r3, ← a5, ← t3]; exact fl.2.1
    · rw [if_pos rfl, mFine0 fl.2.2.1, zBd_some, if_pos rfl, spBad fl.2.2.1]
      obtain ⟨μ4, a1, a2, a3⟩ := cBadEv (at' := at') (what := 4) hc pd3
      rw [zBp_some, a1, cEnd0]
      exact ⟨0, μ4, ξ3, rfl, rfl, cf.xp.tr a2, mf.yp, Or.inr ⟨rfl, fl.c1 a3⟩⟩
theorem pSplitEv {b : Nat → Nat} {n s c : Nat} {g : Int} {μ ξ : gM} {at' : Int32} (hc : c < 20) (h : SIM b n s g μ ξ) (nt : NET μ ξ) (pd : PD c μ ξ) (rd : RDY c at' ξ) : ∃ v μ' ξ', cEnd (zBp (fX6_readGates μ) (fun x8 μ9 => fX6_readEvent_n129 at' 4 x8 μ9)) = some (v, μ') ∧ zBd (fX12_splitRead (nI c) ξ) (fun μ31 => fX12_eventRead_n284 μ31) = some ξ' ∧ BP b n c μ ξ v μ' ξ' := by
  obtain ⟨v, μ', ξ', x1, x2, x3⟩ := pSplit_l (b := b) (n := n) (at' := at') hc 7 0 0 99999 100000 s g μ ξ rfl rfl (by decide) (by decide) (by decide) h nt pd rd
  refine ⟨v, μ', ξ', ?_, x2, x3⟩
  rw [← x1]
  unfold fX6_readGates
  rw [show (100000 : Nat) = 99999 + 1 from rfl, fX6_readGates_l4, if_neg (by decide), if_pos rfl]
  rfl
theorem dm6 : ∀ g : Nat, g < 5 → ∀ k : Nat, k < 6 → nI (6 * g + k) / 6 = nI g ∧ nI (6 * g + k) - nI (6 * g + k) / 6 * 6 = nI k := by decide +kernel
theorem pWordEv {b : Nat → Nat} {n s c : Nat} {g : Int} {μ ξ : gM} {at' : Int32} (hc : c < 20) (h : SIM b n s g μ ξ) (nt : NET μ ξ) (pd : PD c μ ξ) (rd : RDY c at' ξ) : ∃ v μ' ξ', cEnd (zBp (fX6_readWordEvent at' μ) (fun x13 μ14 => zCk (x13 == 0 || x13 == 1) ((some (x13, μ14))))) = some (v, μ') ∧ zBd (fX12_wordRead (nI c) ξ) (fun μ27 => fX12_eventRead_n284 μ27) = some ξ' ∧ BP b n c μ ξ v μ' ξ' := by
  obtain ⟨cg, ct, l1, l2, l3, l4, -⟩ := id nt.2.2.2
  obtain ⟨x, y, z, μ1, ξ1, u1, u2, cf, mf, u3⟩ := pKM (p := 4) (q := 269) (f := fX12_wordRead_n59 (nI c)) (by decide) (by decide) h nt.1.1 nt.1.2.2 (fun i hi => (nt.2.1 i hi).1) l3 (by rw [l4, tN (by omega)]; omega)
  have ew : fX12_wordRead (nI c) ξ = fX12_wordRead_n59 (nI c) y z ξ1 := u2
  unfold fX6_readWordEvent
  rw [ew, u1, zBp_some]
  have pd1 := pd.cm cf mf
  have rd1 := rd.cm mf
  unfold fX12_wordRead_n59
  rcases u3 with ⟨k, gq, k6, g5, rfl, rfl, rfl, bi, kl, gl, s', g', sm⟩ | ⟨rfl, fl⟩
  · rw [if_neg (nI_nm (by omega))]
    obtain ⟨x2, y2, μ2, ξ2, w1, w2, cf2, mf2, w3⟩ := pNumber (lo := 1) (hi := 255) (by decide) sm
    rw [w1, w2, zBp_some, zBp_some]
    unfold fX6_readWordEvent_n32
    rcases w3 with ⟨rfl, v1, v2, s2, g2, sm2⟩ | ⟨rfl, fl⟩
    · have z1 : (1 : Int32).toInt = 1 := rfl
      have z2 : (255 : Int32).toInt = 255 := rfl
      obtain ⟨d1, d2⟩ := dm6 gq g5 k k6
      have o2 : ξ2 269 = ξ 269 := by rw [mf2.1 269 (by decide), mf.1 269 (by decide)]
      obtain ⟨μ3, ξ3, a1, a2, x3, y3, -, sm3, kp3, pd3⟩ := pLay (a2 := 6) (a3 := nI k) (a4 := nI gq) (a5 := x2) hc sm2 (pd1.cm cf2 mf2) (rd1.cm mf2) (fun r r0 r1 r2 r3 r4 => by
        rw [o2]
        exact ⟨by rw [r0]; exact rd.2.1, Or.inr (Or.inr (Or.inr (Or.inr (Or.inr (Or.inr ⟨r1, gq, k, ⟨g5, k6, (bitAt_iff (by omega)).mp bi⟩, r2, r3, by rw [r4]; omega, by rw [r4]; omega⟩)))))⟩)
      rw [if_neg (fun w => by rw [w] at v1; have : (-1 : Int32).toInt = -1 := rfl; omega), d2, d1, a1, zBd_some, a2, zBd_some, zBd_some, zBp_some]
      exact pFinP ⟨(cf.tr cf2).xp.tr x3, (mf.trF mf2).yp.tr y3, Or.inl ⟨rfl, ⟨s2, g2, sm3⟩, pd3, by rw [kp3, mf2.1 271 (by decide), mf.1 271 (by decide)]⟩⟩
    · rw [if_pos rfl, bLay fl.2.2.1, zBd_some, zBd_some, zBp_some]
      exact pFinP ⟨(cf.tr cf2).xp, (mf.trF mf2).yp, Or.inr ⟨rfl, fl⟩⟩
  · unfold fX6_readWordEvent_n32
    obtain ⟨ζ, z0, z1, z2⟩ := bNumber (a1 := 1) (a2 := 255) fl.2.2.2 fl.2.2.1
    have fz := fl.bf z1 z2
    rw [if_pos rfl, if_pos rfl, z0, zBp_some, zBp_some, bLay fz.2.2.1, zBd_some, zBd_some]
    exact pFinP ⟨cf.xp, mf.yp.tr z1.yp, Or.inr ⟨rfl, fz⟩⟩
