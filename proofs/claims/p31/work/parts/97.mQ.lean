/-! events happen -/
theorem gUp_id (μ : gM) (a i : Nat) : gUp μ a i (μ a i) = μ := by
  funext b j
  rw [zUp_at]
  split
  · rename_i h
    subst h
    split
    · rename_i h; rw [h]
    · rfl
  · rfl
/-- a gate that is down goes down: nothing that counts -/
theorem pLowDn_l {s k cn cl cg ct : Nat} {F : Prop} {c y3 : Int32} {ξ : gM} (hs : 34 ≤ s) (hk : k < 6) (dn : bt (ξ 272 1) k = false) : ∀ (m g : Nat) (μ : gM), CTX s F c μ ξ → NC μ ξ cn cl cg ct → GRS s μ ξ → g ≤ cg → 5 < g + m → ∃ μ', fX10_lower_l22 s m (nI k) 0 y3 (nI g) μ = some (y3, μ') ∧ CTX s F c μ' ξ ∧ GRS s μ' ξ ∧ AF s μ μ' := by
  intro m
  induction m with
  | zero => intro g μ _ nc _ hk h2; exact absurd h2 (by have := nc.1.2.2.1; omega)
  | succ m ih =>
    intro g μ h nc gs hgc h2
    have b5 := nc.1.2.2.1
    rw [fX10_lower_l22, nc.2.1.2.2.1]
    by_cases ck : g = cg
    · rw [if_pos ((nIle (by omega) (by omega)).mpr (by omega))]
      exact ⟨μ, rfl, h, gs, AF.rf _ _⟩
    · have g5 : g < 5 := by omega
      have nb : bt (μ (s + 5) g) k = false := by
        rcases (gs g g5).hb g5 hk with ⟨-, b, -⟩ | ⟨-, b, -⟩ | ⟨-, -, -, u⟩
        · exact b
        · exact b
        · rw [dn] at u; exact absurd u (by decide)
      rw [if_neg (fun w => ck (by have := (nIle (by omega) (by omega)).mp w; omega)), cHeld g5 hk, zBd_some, nb, if_neg (show ¬ (false = true) by decide), if_pos rfl, cN102 g5 hk]
      obtain ⟨f1, f2, f3, f4⟩ := fgt_x (s := s) (g := g) (k := k) (μ := μ)
      have dg := fgt_dg (s := s) (g := g) (μ := μ) hk
      obtain ⟨-, ⟨-, -, -, -, -, n5⟩, -, a1, a2, a3⟩ := id h
      have c1 : CTX s F c (fgt s g k μ) ξ := h.mv hs g5 dg (EG.rf _ _) (by rw [f1 s (by omega) (by omega)]; exact n5) ⟨by rw [f1 _ (by omega) (by omega)]; exact a1, a2, fun f => by
        obtain ⟨p1, p2, p3, p4⟩ := a3 f
        exact ⟨p1.cg (f1 _ (by omega) (by omega)) (f1 _ (by omega) (by omega)) rfl (fun _ _ => rfl), by rw [f1 s (by omega) (by omega)]; exact p2, by rw [f1 s (by omega) (by omega)]; exact p3, by rw [f1 _ (by omega) (by omega)]; exact p4⟩⟩
      have g1 : GRP s g no l0 (fgt s g k μ) ξ := by
        obtain ⟨b1, b2, b3, b4⟩ := gs g g5
        refine ⟨fun j mj hj => ?_, fun j hj mj => by rw [f1 _ (by omega) (by omega)]; exact b2 j hj mj, fun j h6 h32 => by rw [f1 _ (by omega) (by omega)]; exact b3 j h6 h32, by rw [f1 _ (by omega) (by omega)]; exact b4⟩
        have := b1 j mj hj
        by_cases ej : j = k
        · subst ej
          obtain ⟨q1, q2, q3, q4, ⟨u, b, z1, z2, z3⟩ | ⟨u, -⟩⟩ := this
          · refine ⟨by rw [f3, z2], by rw [f4, z3]; rfl, q3, q4, Or.inl ⟨u, by rw [f1 _ (by omega) (by omega)]; exact b, z1, z2, z3⟩⟩
          · rw [dn] at u; exact absurd u (by decide)
        · unfold ST at *
          have hj6 := mj.2.1
          obtain ⟨d1, d2⟩ := f2 (6 * g + j) (by omega)
          rw [d1, d2, f1 (s + 5) (by omega) (by omega)]
          exact this
      have gs1 : GRS s (fgt s g k μ) ξ := gs.mv g5 g1 dg (EG.rf _ _)
      obtain ⟨μ', x1, x2, x3, x4⟩ := ih (g + 1) _ c1 (nc.mv hs dg (EG.rf g _)) gs1 (by omega) (by omega)
      exact ⟨μ', x1, x2, x3, dg.af.tr x4⟩
theorem and_not_id {x : Int32} {k : Nat} (hk : k < 32) (h : bt x k = false) : (x &&& (((1 : Int32) <<< (nI k &&& 31)) ^^^ (-1 : Int32))) = x := bt_ext (fun j hj => by
  by_cases e : j = k
  · subst e; rw [(btAnd hk).1, h]
  · exact (btAnd hk).2 j hj e)
theorem pLowDn {s k cn cl cg ct : Nat} {F : Prop} {c : Int32} {μ ξ : gM} (hs : 34 ≤ s) (h : SR s F c μ ξ) (nc : NC μ ξ cn cl cg ct) (hk : k < 6) (dn : bt (ξ 272 1) k = false) : ∃ v μ', fX10_lower s (nI k) 0 μ = some (v, μ') ∧ SR s F c μ' ξ ∧ AF s μ μ' := by
  obtain ⟨h1, h2, h3⟩ := h
  have n1 : μ s 1 = ξ 272 1 := h1.2.1.2.1
  obtain ⟨μ', e, x2, x3, x4⟩ := pLowDn_l (y3 := nI 0) hs hk dn 100000 0 μ h1 nc h2 (Nat.zero_le _) (by decide)
  refine ⟨nI 0, μ', ?_, ⟨x2, x3, fun g hg => (h3 g hg).mv hg x4 (AR.rf _)⟩, x4⟩
  unfold fX10_lower
  rw [zLt_eq, and_not_id (by omega) (by rw [n1]; exact dn), gUp_id]
  exact e
/-- no gate comes up -/
theorem cRaise0_l {s cg : Nat} {M : Int32} {μ : gM} (hM : ∀ i, i < 6 → bt M i = false) (h5 : μ 5 2 = nI cg) (hc : cg ≤ 5) : ∀ (m g : Nat), g ≤ cg → 5 < g + m → fX10_raise_l15 s m M (nI g) μ = some μ := by
  intro m
  induction m with
  | zero => intro g h1 h2; exact absurd h2 (by omega)
  | succ m ih =>
    intro g h1 h2
    rw [fX10_raise_l15, h5]
    by_cases ck : g = cg
    · rw [if_pos ((nIle (by omega) (by omega)).mpr (by omega))]
    · rw [if_neg (fun w => ck (by have := (nIle (by omega) (by omega)).mp w; omega)), show fX10_raise_l30 s (fX10_raise_l15 s m) 100000 M (nI g) (0 : Int32) μ = fX10_raise_l30 s (fX10_raise_l15 s m) 100000 M (nI g) (nI 0) μ by rw [z32], cRise_t (by omega) 100000 0 (by decide) (by decide) (fun i _ hi => by rw [hM i hi, Bool.and_false])]
      exact ih (g + 1) (by omega) (by omega)
theorem cRaise0 {s cn cl cg ct : Nat} {μ ξ : gM} (nc : NC μ ξ cn cl cg ct) : fX10_raise s 0 μ = some μ := by
  have e : μ s 1 ||| (0 : Int32) = μ s 1 := bt_ext (fun j _ => by rw [bt_or, bt_zero, Bool.or_false])
  unfold fX10_raise
  rw [zLt_eq, e, gUp_id, z32]
  exact cRaise0_l (fun i _ => bt_zero i) nc.2.1.2.2.1 nc.1.2.2.1 100000 0 (Nat.zero_le _) (by decide)
theorem mUp {k : Nat} {ξ : gM} (hk : k < 6) : fX12_isUp (nI k) ξ = some (if bt (ξ 272 1) k = true then 1 else 0) := by
  unfold fX12_isUp
  rw [mIsOf (by omega), zBd_some]
  split <;> rfl
theorem evI {k j : Nat} : ((145 : Int32) + ((5 : Int32) * nI k)) + nI j = nI (145 + (5 * k + j)) := by
  rw [show (5 : Int32) = nI 5 from rfl, pk_mul, show (145 : Int32) = nI 145 from rfl, nI_add, nI_add, Nat.add_assoc]
theorem pEv {s k n cn cl cg ct : Nat} {F : Prop} {c : Int32} {μ ξ : gM} (hs : 34 ≤ s) (h : SR s F c μ ξ) (nc : NC μ ξ cn cl cg ct) (hn : n ≤ 20) (hk : k < n) (ev : EVK ξ k) (hr : ∀ j, j < 5 → μ (s + 2) (5 * k + j) = ξ 272 (145 + (5 * k + j))) : ∃ μ' ξ', cEv s k μ = some μ' ∧ fX12_happens (nI k) ξ = some ξ' ∧ SR s F c μ' ξ' ∧ EF s μ ξ μ' ξ' := by
  have n1 : μ s 1 = ξ 272 1 := h.1.2.1.2.1
  have n2 : μ s 2 = ξ 272 2 := h.1.2.1.2.2.1
  have b := nc.1
  have i1 : ((145 : Int32) + ((5 : Int32) * nI k)) + (1 : Int32) = nI (145 + (5 * k + 1)) := evI (j := 1)
  have i2 : ((145 : Int32) + ((5 : Int32) * nI k)) + (2 : Int32) = nI (145 + (5 * k + 2)) := evI (j := 2)
  have i3 : ((145 : Int32) + ((5 : Int32) * nI k)) + (3 : Int32) = nI (145 + (5 * k + 3)) := evI (j := 3)
  have i4 : ((145 : Int32) + ((5 : Int32) * nI k)) + (4 : Int32) = nI (145 + (5 * k + 4)) := evI (j := 4)
  unfold cEv fX12_happens
  rw [i1, i2, i3, i4]
  unfold zCk
  rw [if_pos (gI (by omega) (by decide)), nI_clamp (by omega), zLt_eq, if_pos (gI (by omega) (by decide)), nI_clamp (by omega), zLt_eq, hr 1 (by decide), hr 2 (by decide), hr 3 (by decide), hr 4 (by decide)]
  obtain ⟨-, ev⟩ := ev
  rcases ev with ⟨e, w, hw, ew⟩ | ⟨e, w, hw, ew⟩ | e | e | e | e | ⟨e, g, w, mw, ew, eg, ev⟩
  · rw [nc.2.2.1, tN (by omega)] at hw
    rw [e, if_pos rfl, if_pos rfl, ew, mUp (by omega), zBd_some, n1]
    by_cases u : bt (ξ 272 1) w = true
    · rw [if_pos u, if_neg one_n0]
      have z : (((1 : Int32) <<< (nI w &&& 31)) &&& ((ξ 272 1) ^^^ (-1 : Int32))) = 0 := bt_ext (fun j hj => by
        rw [bt_and, bt_one w (by omega) j hj, bt_not _ hj, bt_zero]
        by_cases ej : j = w
        · subst ej; rw [u]; simp
        · rw [decide_eq_false ej, Bool.false_and])
      rw [z, cRaise0 nc]
      exact ⟨μ, ξ, rfl, rfl, h, EF.of (AF.rf _ _) (AR.rf _)⟩
    · have u' : bt (ξ 272 1) w = false := Bool.eq_false_iff.mpr u
      have z : (((1 : Int32) <<< (nI w &&& 31)) &&& ((ξ 272 1) ^^^ (-1 : Int32))) = ((1 : Int32) <<< (nI w &&& 31)) := bt_ext (fun j hj => by
        rw [bt_and, bt_one w (by omega) j hj, bt_not _ hj]
        by_cases ej : j = w
        · subst ej; rw [u']; simp
        · rw [decide_eq_false ej, Bool.false_and])
      rw [if_neg u, if_pos rfl, z]
      obtain ⟨μ', ξ', e1, e2, x3, x4, x5, -⟩ := pRaise hs h nc (show w < cn by omega) u' rfl
      rw [e1, e2, zBd_some]
      exact ⟨μ', ξ', rfl, rfl, x3, EF.of x4 x5⟩
  · rw [nc.2.2.1, tN (by omega)] at hw
    rw [e, if_neg (show ¬ (1 : Int32) = 0 by decide), if_neg (show ¬ (1 : Int32) = 0 by decide), if_pos rfl, if_pos rfl, ew, mUp (by omega), zBd_some]
    by_cases u : bt (ξ 272 1) w = true
    · rw [if_pos u, if_neg one_n0]
      obtain ⟨v, μ', ξ', e1, e2, x3, x4, x5, -⟩ := pLower (y2 := 0) hs h nc (show w < cn by omega) (Or.inl rfl)
      rw [e1, e2, zBp_some, zBp_some]
      exact ⟨μ', ξ', rfl, rfl, x3, EF.of x4 x5⟩
    · have u' : bt (ξ 272 1) w = false := Bool.eq_false_iff.mpr u
      rw [if_neg u, if_pos rfl]
      obtain ⟨v, μ', e1, x3, x4⟩ := pLowDn hs h nc (show w < 6 by omega) u'
      rw [e1, zBp_some]
      exact ⟨μ', ξ, rfl, rfl, x3, EF.of x4 (AR.rf _)⟩
  · rw [e, if_neg (show ¬ (2 : Int32) = 0 by decide), if_neg (show ¬ (2 : Int32) = 0 by decide), if_neg (show ¬ (2 : Int32) = 1 by decide), if_neg (show ¬ (2 : Int32) = 1 by decide), if_pos rfl, if_pos rfl, n2, zLt_eq]
    obtain ⟨μ', e1, x3, x4, -⟩ := SR.cuts (v := ξ 272 2 ||| ((1 : Int32) <<< (ξ 272 (145 + (5 * k + 2)) &&& 31))) hs h
    exact ⟨μ', _, e1, rfl, x3, x4⟩
  · rw [e, if_neg (show ¬ (3 : Int32) = 0 by decide), if_neg (show ¬ (3 : Int32) = 0 by decide), if_neg (show ¬ (3 : Int32) = 1 by decide), if_neg (show ¬ (3 : Int32) = 1 by decide), if_neg (show ¬ (3 : Int32) = 2 by decide), if_neg (show ¬ (3 : Int32) = 2 by decide), if_pos rfl, if_pos rfl, n2, zLt_eq]
    obtain ⟨μ', e1, x3, x4, -⟩ := SR.cuts (v := ξ 272 2 &&& (((1 : Int32) <<< (ξ 272 (145 + (5 * k + 2)) &&& 31)) ^^^ (-1 : Int32))) hs h
    exact ⟨μ', _, e1, rfl, x3, x4⟩
  · rw [e, if_neg (show ¬ (4 : Int32) = 0 by decide), if_neg (show ¬ (4 : Int32) = 0 by decide), if_neg (show ¬ (4 : Int32) = 1 by decide), if_neg (show ¬ (4 : Int32) = 1 by decide), if_neg (show ¬ (4 : Int32) = 2 by decide), if_neg (show ¬ (4 : Int32) = 2 by decide), if_neg (show ¬ (4 : Int32) = 3 by decide), if_neg (show ¬ (4 : Int32) = 3 by decide), if_pos rfl, if_pos rfl, zLt_eq]
    have x := SR.part (v := ξ 272 (145 + (5 * k + 2))) hs h
    exact ⟨_, _, rfl, rfl, x.1, x.2⟩
  · rw [e, if_neg (show ¬ (5 : Int32) = 0 by decide), if_neg (show ¬ (5 : Int32) = 0 by decide), if_neg (show ¬ (5 : Int32) = 1 by decide), if_neg (show ¬ (5 : Int32) = 1 by decide), if_neg (show ¬ (5 : Int32) = 2 by decide), if_neg (show ¬ (5 : Int32) = 2 by decide), if_neg (show ¬ (5 : Int32) = 3 by decide), if_neg (show ¬ (5 : Int32) = 3 by decide), if_neg (show ¬ (5 : Int32) = 4 by decide), if_neg (show ¬ (5 : Int32) = 4 by decide), if_pos rfl, if_pos rfl, zLt_eq]
    have x := SR.part (v := 0) hs h
    exact ⟨_, _, rfl, rfl, x.1, x.2⟩
  · rw [e, if_neg (show ¬ (6 : Int32) = 0 by decide), if_neg (show ¬ (6 : Int32) = 0 by decide), if_neg (show ¬ (6 : Int32) = 1 by decide), if_neg (show ¬ (6 : Int32) = 1 by decide), if_neg (show ¬ (6 : Int32) = 2 by decide), if_neg (show ¬ (6 : Int32) = 2 by decide), if_neg (show ¬ (6 : Int32) = 3 by decide), if_neg (show ¬ (6 : Int32) = 3 by decide), if_neg (show ¬ (6 : Int32) = 4 by decide), if_neg (show ¬ (6 : Int32) = 4 by decide), if_neg (show ¬ (6 : Int32) = 5 by decide), if_neg (show ¬ (6 : Int32) = 5 by decide), if_pos rfl, if_pos (gI (by omega) (by decide)), nI_clamp (by omega), ew, eg]
    have g5 := mw.1
    have w6 := mw.2.1
    have i10 : (10 : Int32) + nI (6 * g + w) = nI (10 + (6 * g + w)) := nI_add 10 _
    rw [mOf _ g5 w6, zBd_some, if_pos (gI (by omega) (by decide)), nI_clamp (by omega), i10, if_pos (gI (by omega) (by decide)), nI_clamp (by omega), zLt_eq]
    obtain ⟨μ', e1, x3, x4, -⟩ := SR.tell hs h mw ev
    exact ⟨μ', _, e1, rfl, x3, x4⟩
