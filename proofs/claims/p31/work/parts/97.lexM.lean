/-! gates and links -/
def mNRest (a1 x1 : Int32) (μ2 : gM) : Option gM := zBd (fX12_isFine μ2) (fun x3 => (if x3 = 0 then (some μ2) else zLt ((0 : Int32) + a1) (fun x4 => zCk (gIn x4 209) (zCk (gIn x4 209) (zLt (gUp μ2 270 (x4).toNatClampNeg ((μ2 270 (x4).toNatClampNeg) + (1 : Int32))) (fun μ7 => (some μ7)))))))
theorem pNames {b : Nat → Nat} {n s t c : Nat} {g : Int} {μ ξ : gM} {a x2 : Int32} (ht : t < 2) (hat : a = nI t) (h : SIM b n s g μ ξ) (dr : DR μ ξ) (hc : ξ 270 t = nI c) (c6 : t = 0 → c ≤ 5) (c7 : c ≤ 7) (hx : x2 = nI c) : ∃ v μ' ξ', fX2_readName a μ = some (v, μ') ∧ zBp (mTail a x2 ξ) (mNRest a) = some ξ' ∧ Both b n μ ξ v μ' ξ' := by
  subst hx
  have tc : (nI c).toInt = c := nI_toInt (by omega)
  have ta : a.toInt = t := by rw [hat]; exact nI_toInt (by omega)
  have nt : NT 18 270 t μ ξ := by
    have : t = 0 ∨ t = 1 := by omega
    rcases this with rfl | rfl
    · exact dr.1.1
    · exact dr.1.2.1
  have m19 : μ 19 t = nI c := by rw [← hc]; exact nt.1
  obtain ⟨v, y, μ1, ξ1, u1, u2, e1, u3⟩ := pNew (t := t) (c := c) (y2 := nI c) (by omega) hat (by rw [m19]; exact tc) tc c7 h dr.1
  rw [u1, u2, zBp_some]
  unfold mNRest
  rcases u3 with ⟨rfl, rfl, nq⟩ | ⟨rfl, rfl, fl, cf, mf⟩
  · obtain ⟨⟨s1, g1, h1⟩, q1, q2, q3, q4, q5, q6, q7, q8⟩ := nq
    rw [mFine1 h1.2.2.2.2.2.2, zBd_some, if_neg (show ¬ (1 : Int32) = 0 by decide), show (0 : Int32) + a = a from Int32.zero_add _]
    simp only [zLt, zCk]
    have g9 : gIn a 209 = true := zIn ta (by omega) (by omega)
    rw [if_pos g9, if_pos g9, cl_of ta]
    have o1 : ξ1 270 t = nI c := by rw [q6 t (by omega), hc]
    rw [o1, show nI c + (1 : Int32) = nI (c + 1) from nI_1 c]
    generalize eC' : gUp ξ1 270 t (nI (c + 1)) = ξC
    have wC : ∀ a, a ≠ 270 → ξC a = ξ1 a := fun a ha => by rw [← eC', zUp_ne _ ha]
    have ct : ξC 270 t = nI (c + 1) := by rw [← eC', zUp_same]
    have oj : ∀ j, j ≠ t → ξC 270 j = ξ1 270 j := fun j hj => by rw [← eC', zUp_slot _ hj]
    have ok : ∀ j, j ≠ t → j ≠ 4 + 8 * t + c → ξC 270 j = ξ 270 j := fun j hj h4 => by rw [oj j hj, q6 j h4]
    refine ⟨1, μ1, ξC, rfl, rfl, ⟨fun a h1 h2 => q5 a h1 (by omega) (by omega), e1⟩, ⟨fun a h1 h2 => by rw [wC a h2, q7 a h1 h2], fun i hi => by rw [wC 267 (by decide), q8 i hi]⟩, Or.inl ⟨rfl, ⟨s1, g1, h1.fr rfl rfl rfl (wC 267 (by decide)) (wC 268 (by decide))⟩, ?_⟩⟩
    obtain ⟨⟨n0, n1, n2⟩, mb, mw, cg, ctr, l1, l2, l3, l4, l5, l6, gr, tk⟩ := dr
    have tc1 : (nI (c + 1)).toInt = ((c + 1 : Nat) : Int) := nI_toInt (by omega)
    have ntk : ∀ r, r < 3 → NT 18 270 r μ ξ → NT 18 270 r μ1 ξC := fun r hr nr => by
      obtain ⟨w1, w2, w3⟩ := nr
      by_cases er : r = t
      · subst er
        refine ⟨?_, by rw [ct, tc1]; omega, fun k hk => ?_⟩
        · show μ1 19 r = ξC 270 r
          rw [q2, ct]
        · rw [ct, tc1] at hk
          show NM (μ1 20 (r * 8 + k)) (ξC 270 (4 + 8 * r + k))
          by_cases ek : k = c
          · subst ek
            rw [oj _ (by omega)]
            exact q1
          · rw [q4 _ (by omega), ok _ (by omega) (by omega)]
            exact w3 k (by rw [hc, tc]; omega)
      · have et : ξC 270 r = ξ 270 r := ok r er (by omega)
        refine ⟨?_, by rw [et]; exact w2, fun k hk => ?_⟩
        · show μ1 19 r = ξC 270 r
          rw [q3 r er, et]; exact w1
        · rw [et] at hk
          show NM (μ1 20 (r * 8 + k)) (ξC 270 (4 + 8 * r + k))
          rw [q4 _ (by omega), ok _ (by omega) (by omega)]
          exact w3 k hk
    have sA : ∀ a, a ≠ 1 → a ≠ 19 → a ≠ 20 → μ1 a = μ a := q5
    refine ⟨⟨ntk 0 (by decide) n0, ntk 1 (by decide) n1, ntk 2 (by decide) n2⟩, fun g' hg => ?_, fun g' k hg hk hb => ?_, cg, ctr, l1, l2, ?_, ?_, ?_, ?_, fun g' hg => ?_, fun r hr => ?_⟩
    · rw [sA 25 (by decide) (by decide) (by decide), ok (48 + g') (by omega) (by omega)]
      exact mb g' hg
    · rw [ok (48 + g') (by omega) (by omega)] at hb
      rw [sA 26 (by decide) (by decide) (by decide), sA 27 (by decide) (by decide) (by decide), ok (53 + (6 * g' + k)) (by omega) (by omega), ok (83 + (6 * g' + k)) (by omega) (by omega)]
      obtain ⟨w1, w2, w3, w4, w5⟩ := mw g' k hg hk hb
      refine ⟨w1, w2, w3, ?_, by rw [ok 2 (by omega) (by omega)]; exact w5⟩
      by_cases et : t = 0
      · subst et
        rw [hc, tc] at w4
        rw [ct, tc1]
        omega
      · rw [ok 0 (by omega) (by omega)]; exact w4
    · by_cases et : t = 0
      · subst et
        rw [ct, tc1]
        have := c6 rfl
        omega
      · rw [ok 0 (by omega) (by omega)]; exact l3
    · rw [ok 2 (by omega) (by omega)]; exact l4
    · rw [ok 3 (by omega) (by omega)]; exact l5
    · rw [sA 18 (by decide) (by decide) (by decide)]; exact l6
    · rw [sA 21 (by decide) (by decide) (by decide), sA 22 (by decide) (by decide) (by decide), sA 23 (by decide) (by decide) (by decide), sA 24 (by decide) (by decide) (by decide), ok (28 + g') (by omega) (by omega), ok (33 + g') (by omega) (by omega), ok (38 + g') (by omega) (by omega), ok (43 + g') (by omega) (by omega)]
      exact gr g' hg
    · obtain ⟨g', k, u1, u2, u3, u4, u5, u6, u7⟩ := tk r hr
      refine ⟨g', k, u1, u2, ?_, ?_, ?_, ?_, ?_⟩
      · rw [ok _ (by omega) (by omega)]; exact u3
      · rw [ok _ (by omega) (by omega)]; exact u4
      · rw [sA 28 (by decide) (by decide) (by decide)]; exact u5
      · rw [sA 29 (by decide) (by decide) (by decide), ok _ (by omega) (by omega)]; exact u6
      · rw [sA 30 (by decide) (by decide) (by decide), ok _ (by omega) (by omega), ok _ (by omega) (by omega)]; exact u7
  · rw [mFine0 fl.2.2.1, zBd_some, if_pos rfl]
    exact ⟨0, μ1, ξ1, rfl, rfl, cf.xf, mf.yf, Or.inr ⟨rfl, fl⟩⟩
