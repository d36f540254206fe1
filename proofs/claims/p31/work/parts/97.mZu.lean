/-! one group alone: events, a group's turn, a tick -/
theorem PGE.net {s g : Nat} {μ ν ξ : gM} (p : PGE s g μ ν) (nt : NET ν ξ) : NET μ ξ := nt.fr p.1 rfl
/-- only the members' words change -/
theorem PGE.wd {s g : Nat} {μ ν μ' ν' : gM} (hs : 34 ≤ s) (p : PGE s g μ ν) (wm : ∀ a, a ≠ s + 9 → a ≠ s + 10 → a ≠ s + 11 → μ' a = μ a) (wn : ∀ a, a ≠ s + 9 → a ≠ s + 10 → a ≠ s + 11 → ν' a = ν a) (w : ∀ h k, h < 5 → k < 6 → bt (ν 11 h) k = true → μ' (s + 9) (6 * h + k) = ν' (s + 9) (6 * h + k) ∧ μ' (s + 10) (6 * h + k) = ν' (s + 10) (6 * h + k) ∧ μ' (s + 11) (6 * h + k) = ν' (s + 11) (6 * h + k)) : PGE s g μ' ν' := by
  obtain ⟨p1, p2, p3, p4, p5, p8, p9, p10⟩ := p
  refine ⟨fun a h1 h2 => by rw [wm a (by omega) (by omega) (by omega), wn a (by omega) (by omega) (by omega)]; exact p1 a h1 h2, fun j hj => by rw [wm s (by omega) (by omega) (by omega), wn s (by omega) (by omega) (by omega)]; exact p2 j hj, ?_, ?_, ?_, ?_, ?_, fun j hj => ?_⟩
  · rw [wm (s + 1) (by omega) (by omega) (by omega), wm (s + 2) (by omega) (by omega) (by omega), wn (s + 1) (by omega) (by omega) (by omega), wn (s + 2) (by omega) (by omega) (by omega)]; exact p3
  · rw [wn 11 (by omega) (by omega) (by omega)]; exact w
  · rw [wm (s + 5) (by omega) (by omega) (by omega), wm (s + 8) (by omega) (by omega) (by omega), wm (s + 12) (by omega) (by omega) (by omega), wm (s + 13) (by omega) (by omega) (by omega), wn (s + 5) (by omega) (by omega) (by omega), wn (s + 8) (by omega) (by omega) (by omega), wn (s + 12) (by omega) (by omega) (by omega), wn (s + 13) (by omega) (by omega) (by omega), wn 11 (by omega) (by omega) (by omega)]; exact p5
  · unfold BL; rw [wm (s + 3) (by omega) (by omega) (by omega)]; exact p8
  · unfold BL; rw [wn (s + 3) (by omega) (by omega) (by omega)]; exact p9
  · rw [wm (s + 5) (by omega) (by omega) (by omega)]; exact p10 j hj
theorem setTF {s i : Nat} {v : Int32} {μ : gM} : TF s μ (gUp μ s i v) := ⟨fun a ha => zUp_ne _ (by omega), fun j _ => by rw [zUp_ne _ (by omega)]⟩
theorem PGE.cuts {s g : Nat} {v : Int32} {μ ν ξ : gM} (hs : 34 ≤ s) (p : PGE s g μ ν) (nt : NET ν ξ) : ∃ μ' ν', fX10_setCuts s v μ = some μ' ∧ fX10_setCuts s v ν = some ν' ∧ PGE s g μ' ν' ∧ TF s μ μ' := by
  unfold fX10_setCuts
  rw [zLt_eq, zLt_eq]
  have q := p.set (i := 2) (v := v) hs
  have wm : ∀ a, a ≠ s → gUp μ s 2 v a = μ a := fun a ha => zUp_ne _ ha
  have wn : ∀ a, a ≠ s → gUp ν s 2 v a = ν a := fun a ha => zUp_ne _ ha
  have nt1 : NET (gUp ν s 2 v) ξ := nt.fr (fun a h1 h2 => wn a (by omega)) rfl
  obtain ⟨μ', e1, f1, u1⟩ := cCuts_l (s := s) hs 100000 0 (gUp μ s 2 v) (q.net nt1) (by omega) (by omega)
  obtain ⟨ν', e2, f2, u2⟩ := cCuts_l (s := s) hs 100000 0 (gUp ν s 2 v) nt1 (by omega) (by omega)
  refine ⟨μ', ν', e1, e2, q.wd hs (fun a _ h2 h3 => f1 a h2 h3) (fun a _ h2 h3 => f2 a h2 h3) (fun h k hh hk m => ?_), ⟨fun a ha => by rw [f1 a (by omega) (by omega), wm a (by omega)], fun i _ => by rw [f1 _ (by omega) (by omega), wm _ (by omega)]⟩⟩
  obtain ⟨x1, x2⟩ := (u1 h k hh hk).2 (by omega)
  obtain ⟨y1, y2⟩ := (u2 h k hh hk).2 (by omega)
  obtain ⟨w9, -, -⟩ := q.2.2.2.1 h k hh hk m
  have e7 : gUp μ s 2 v 7 h = gUp ν s 2 v 7 h := congrFun (q.1 7 (by decide) (by decide)) h
  refine ⟨by rw [f1 _ (by omega) (by omega), f2 _ (by omega) (by omega)]; exact w9, ?_, ?_⟩
  · rw [x1, y1, zUp_same, zUp_same, w9]
  · unfold wgt at x2 y2
    rw [x2, y2, zUp_same, zUp_same, w9, e7]
theorem PGE.tell {s g h k : Nat} {v : Int32} {μ ν ξ : gM} (hs : 34 ≤ s) (p : PGE s g μ ν) (nt : NET ν ξ) (m : mem (ξ 269) h k) : ∃ μ' ν', fX10_tell s (nI h) (nI k) v μ = some μ' ∧ fX10_tell s (nI h) (nI k) v ν = some ν' ∧ PGE s g μ' ν' ∧ TF s μ μ' := by
  have hh := m.1
  have hk := m.2.1
  have gm : gIn (nI (6 * h + k)) 30 = true := gI (by omega) (by decide)
  have cm : (nI (6 * h + k)).toNatClampNeg = 6 * h + k := nI_clamp (by omega)
  have ntm := p.net nt
  have wm : ∀ a, a ≠ s + 9 → gUp μ (s + 9) (6 * h + k) v a = μ a := fun a ha => zUp_ne _ ha
  have wn : ∀ a, a ≠ s + 9 → gUp ν (s + 9) (6 * h + k) v a = ν a := fun a ha => zUp_ne _ ha
  obtain ⟨μ', e1, f1, u10, u11⟩ := cWeigh (s := s) hh hk hs (ntm.fr (μ' := gUp μ (s + 9) (6 * h + k) v) (ξ' := ξ) (fun a h1 h2 => wm a (by omega)) rfl)
  obtain ⟨ν', e2, f2, v10, v11⟩ := cWeigh (s := s) hh hk hs (nt.fr (μ' := gUp ν (s + 9) (6 * h + k) v) (ξ' := ξ) (fun a h1 h2 => wn a (by omega)) rfl)
  have fm : ∀ a, a ≠ s + 9 → a ≠ s + 10 → a ≠ s + 11 → μ' a = μ a := fun a h1 h2 h3 => by rw [f1 a h2 h3, wm a h1]
  have fn : ∀ a, a ≠ s + 9 → a ≠ s + 10 → a ≠ s + 11 → ν' a = ν a := fun a h1 h2 h3 => by rw [f2 a h2 h3, wn a h1]
  have ex : ∀ (κ κ' : gM), NET κ ξ → fX10_weigh s (nI (6 * h + k)) (gUp κ (s + 9) (6 * h + k) v) = some κ' → fX10_tell s (nI h) (nI k) v κ = some κ' := fun κ κ' n e => by
    unfold fX10_tell
    rw [cMemT n m, zBd_some, if_neg one_n0, o6f hh hk, ckT gm, cm, zLt_eq, e, zBd_some]
  refine ⟨μ', ν', ex μ μ' ntm e1, ex ν ν' nt e2, p.wd hs fm fn (fun h' k' a1 a2 mm => ?_), ⟨fun a ha => fm a (by omega) (by omega) (by omega), fun i _ => by rw [fm _ (by omega) (by omega) (by omega)]⟩⟩
  obtain ⟨w9, w10, w11⟩ := p.2.2.2.1 h' k' a1 a2 mm
  have e7 : μ 7 h = ν 7 h := congrFun (p.1 7 (by decide) (by decide)) h
  have e2' : μ s 2 = ν s 2 := p.2.1 2 (by omega)
  rw [f1 (s + 9) (by omega) (by omega), f2 (s + 9) (by omega) (by omega), u10, u11, v10, v11, zUp_at, zUp_at, if_pos rfl, if_pos rfl, upd_at, upd_at, upd_at, upd_at, zUp_same, zUp_same, wm s (by omega), wn s (by omega), wm (s + 10) (by omega), wn (s + 10) (by omega), wm (s + 11) (by omega), wn (s + 11) (by omega), e2']
  by_cases c : 6 * h' + k' = 6 * h + k
  · rw [if_pos c, if_pos c, if_pos c, if_pos c, if_pos c, if_pos c]
    refine ⟨rfl, rfl, ?_⟩
    unfold wgt
    rw [wm 7 (by omega), wn 7 (by omega), e7]
  · rw [if_neg c, if_neg c, if_neg c, if_neg c, if_neg c, if_neg c]
    exact ⟨w9, w10, w11⟩
/-- an event, on the page and beside it -/
theorem PGE.ev {s g k cn cl cg ct : Nat} {μ ν ξ : gM} (hs : 34 ≤ s) (p : PGE s g μ ν) (nt : NET ν ξ) (nc : NC ν ξ cn cl cg ct) (hk : k < 20) (ev : EVK ξ k) (hr : ∀ j, j < 5 → ν (s + 2) (5 * k + j) = ξ 272 (145 + (5 * k + j))) : ∃ μ' ν', cEv s k μ = some μ' ∧ cEv s k ν = some ν' ∧ PGE s g μ' ν' ∧ TF s μ μ' := by
  have b := nc.1
  have hm : ∀ j, j < 5 → μ (s + 2) (5 * k + j) = ξ 272 (145 + (5 * k + j)) := fun j hj => (p.2.2.1.2 _ (by omega)).trans (hr j hj)
  unfold cEv
  rw [hr 1 (by decide), hr 2 (by decide), hr 3 (by decide), hr 4 (by decide), hm 1 (by decide), hm 2 (by decide), hm 3 (by decide), hm 4 (by decide), p.2.1 1 (by omega), p.2.1 2 (by omega)]
  obtain ⟨-, ev⟩ := ev
  have z01 : ¬ (1 : Int32) = 0 := by decide
  rcases ev with ⟨e, w, hw, ew⟩ | ⟨e, w, hw, ew⟩ | e | e | e | e | ⟨e, h, w, mw, ew, eh, ev⟩
  · rw [nc.2.2.1, tN (by omega)] at hw
    rw [e, if_pos rfl, if_pos rfl, ew]
    by_cases u : bt (ν s 1) w = true
    · have z : (((1 : Int32) <<< (nI w &&& 31)) &&& ((ν s 1) ^^^ (-1 : Int32))) = 0 := bt_ext (fun j hj => by
        rw [bt_and, bt_one w (by omega) j hj, bt_not _ hj, bt_zero]
        by_cases ej : j = w
        · subst ej; rw [u]; simp
        · rw [decide_eq_false ej, Bool.false_and])
      have ncm : NC μ ξ cn cl cg ct := nc.fr (p.1 4 (by decide) (by decide)) (p.1 5 (by decide) (by decide)) rfl
      rw [z, cRaise0 nc, cRaise0 ncm]
      exact ⟨μ, ν, rfl, rfl, p, TF.rf _ _⟩
    · have u' : bt (ν s 1) w = false := Bool.eq_false_iff.mpr u
      have z : (((1 : Int32) <<< (nI w &&& 31)) &&& ((ν s 1) ^^^ (-1 : Int32))) = ((1 : Int32) <<< (nI w &&& 31)) := bt_ext (fun j hj => by
        rw [bt_and, bt_one w (by omega) j hj, bt_not _ hj]
        by_cases ej : j = w
        · subst ej; rw [u']; simp
        · rw [decide_eq_false ej, Bool.false_and])
      rw [z]
      obtain ⟨μ', ν', e1, e2, q, f1, -⟩ := p.rise hs (by omega : w < 6) b.2.2.1 nc.2.1.2.2.1 rfl
      exact ⟨μ', ν', e1, e2, q, f1.tf⟩
  · rw [nc.2.2.1, tN (by omega)] at hw
    rw [e, if_neg z01, if_neg z01, if_pos rfl, if_pos rfl, ew]
    obtain ⟨v, v', μ', ν', e1, e2, q, f1, -⟩ := p.low hs (by omega : w < 6) b.2.2.1 nc.2.1.2.2.1
    rw [e1, e2, zBp_some, zBp_some]
    exact ⟨μ', ν', rfl, rfl, q, f1.tf⟩
  · rw [e, if_neg (show ¬ (2 : Int32) = 0 by decide), if_neg (show ¬ (2 : Int32) = 0 by decide), if_neg (show ¬ (2 : Int32) = 1 by decide), if_neg (show ¬ (2 : Int32) = 1 by decide), if_pos rfl, if_pos rfl]
    exact p.cuts hs nt
  · rw [e, if_neg (show ¬ (3 : Int32) = 0 by decide), if_neg (show ¬ (3 : Int32) = 0 by decide), if_neg (show ¬ (3 : Int32) = 1 by decide), if_neg (show ¬ (3 : Int32) = 1 by decide), if_neg (show ¬ (3 : Int32) = 2 by decide), if_neg (show ¬ (3 : Int32) = 2 by decide), if_pos rfl, if_pos rfl]
    exact p.cuts hs nt
  · rw [e, if_neg (show ¬ (4 : Int32) = 0 by decide), if_neg (show ¬ (4 : Int32) = 0 by decide), if_neg (show ¬ (4 : Int32) = 1 by decide), if_neg (show ¬ (4 : Int32) = 1 by decide), if_neg (show ¬ (4 : Int32) = 2 by decide), if_neg (show ¬ (4 : Int32) = 2 by decide), if_neg (show ¬ (4 : Int32) = 3 by decide), if_neg (show ¬ (4 : Int32) = 3 by decide), if_pos rfl, if_pos rfl]
    exact ⟨_, _, rfl, rfl, p.set hs, setTF⟩
  · rw [e, if_neg (show ¬ (5 : Int32) = 0 by decide), if_neg (show ¬ (5 : Int32) = 0 by decide), if_neg (show ¬ (5 : Int32) = 1 by decide), if_neg (show ¬ (5 : Int32) = 1 by decide), if_neg (show ¬ (5 : Int32) = 2 by decide), if_neg (show ¬ (5 : Int32) = 2 by decide), if_neg (show ¬ (5 : Int32) = 3 by decide), if_neg (show ¬ (5 : Int32) = 3 by decide), if_neg (show ¬ (5 : Int32) = 4 by decide), if_neg (show ¬ (5 : Int32) = 4 by decide), if_pos rfl, if_pos rfl]
    exact ⟨_, _, rfl, rfl, p.set hs, setTF⟩
  · rw [e, if_neg (show ¬ (6 : Int32) = 0 by decide), if_neg (show ¬ (6 : Int32) = 0 by decide), if_neg (show ¬ (6 : Int32) = 1 by decide), if_neg (show ¬ (6 : Int32) = 1 by decide), if_neg (show ¬ (6 : Int32) = 2 by decide), if_neg (show ¬ (6 : Int32) = 2 by decide), if_neg (show ¬ (6 : Int32) = 3 by decide), if_neg (show ¬ (6 : Int32) = 3 by decide), if_neg (show ¬ (6 : Int32) = 4 by decide), if_neg (show ¬ (6 : Int32) = 4 by decide), if_neg (show ¬ (6 : Int32) = 5 by decide), if_neg (show ¬ (6 : Int32) = 5 by decide), if_pos rfl, if_pos rfl, ew, eh]
    exact p.tell hs nt mw
theorem PGE.hapB {s g n cn cl cg ct : Nat} {F : Prop} {c : Int32} (hs : 34 ≤ s) : ∀ (m1 k : Nat) (μ ν ξ : gM), PGE s g μ ν → SR s F c ν ξ → NC ν ξ cn cl cg ct → PLN s n ν ξ → ν s 8 = nI k → k ≤ n → n - k < m1 → ∃ μ' ν', fX10_happen_l8 s m1 (nI k) μ = some μ' ∧ fX10_happen_l8 s m1 (nI k) ν = some ν' ∧ PGE s g μ' ν' ∧ TF s μ μ' := by
  intro m1
  induction m1 with
  | zero => intro k μ ν ξ _ _ _ _ _ _ h1; omega
  | succ m1 ih =>
    intro k μ ν ξ p h nc pn h8 hkn hm1
    obtain ⟨p1, p2, p3, p4, p5, p6⟩ := id pn
    have m2 : μ (s + 1) 0 = nI n := p.2.2.1.1.trans p2
    by_cases ck : k = n
    · subst ck
      rw [fX10_happen_l8, fX10_happen_l8, p2, m2, if_pos (Int32.le_refl _), if_pos (Int32.le_refl _)]
      exact ⟨μ, ν, rfl, rfl, p, TF.rf _ _⟩
    · have kn : k < n := by omega
      have r0 : ν (s + 2) (5 * k) = ξ 272 (145 + 5 * k) := p4 (5 * k) (by omega)
      have m0 : μ (s + 2) (5 * k) = ν (s + 2) (5 * k) := p.2.2.1.2 _ (by omega)
      have t0 : μ s 0 = ν s 0 := p.2.1 0 (by omega)
      by_cases ca : ν (s + 2) (5 * k) = ν s 0
      · rw [cHap p1 kn p2 ca, cHap p1 kn m2 (by rw [m0, t0]; exact ca)]
        have hN := h.next (v := nI (k + 1)) hs
        have tn : TF s ν (gUp ν s 8 (nI (k + 1))) := setTF
        have nc0 := nc.tf hs tn (RF.rf ξ)
        have hrr : ∀ j, j < 5 → gUp ν s 8 (nI (k + 1)) (s + 2) (5 * k + j) = ξ 272 (145 + (5 * k + j)) := fun j hj => by rw [zUp_ne _ (by omega)]; exact p4 (5 * k + j) (by omega)
        obtain ⟨ν1, ξ1, e1, e2, h1, f1⟩ := pEv hs hN nc0 p1 kn (p5 k kn) hrr
        obtain ⟨μ1, ν1', x1, x2, q, tf⟩ := (p.set (i := 8) (v := nI (k + 1)) hs).ev hs hN.1.1 nc0 (by omega) (p5 k kn) hrr
        rw [e1] at x2
        obtain rfl := Option.some.inj x2
        rw [e1, x1, zBd_some, zBd_some]
        obtain ⟨ft, fr, f0, f8, fx⟩ := f1
        have tt := tn.tr ft
        obtain ⟨μ', ν', y1, y2, y3, y4⟩ := ih (k + 1) μ1 ν1 ξ1 q h1 (nc.tf hs tt fr) (pn.mv tt fr) (by rw [f8, zUp_same]) (by omega) (by omega)
        exact ⟨μ', ν', y1, y2, y3, (setTF.tr tf).tr y4⟩
      · have ea : ∀ κ : gM, fX5_at (s + 1) (nI k) κ = some (κ (s + 2) (5 * k)) := fun κ => by
          unfold fX5_at
          rw [show nI k * (5 : Int32) = nI (5 * k) by rw [show (5 : Int32) = nI 5 from rfl, pk_mul, Nat.mul_comm], ckT (gI (by omega) (by decide)), nI_clamp (by omega)]
        have w : ¬ nI n ≤ nI k := fun w => by have := (nIle (by omega) (by omega)).mp w; omega
        rw [fX10_happen_l8, fX10_happen_l8, p2, m2, if_neg w, if_neg w, ea, ea, zBd_some, zBd_some, if_neg ca, if_neg (by rw [m0, t0]; exact ca)]
        exact ⟨μ, ν, rfl, rfl, p, TF.rf _ _⟩
/-- what the page has in common with the reference -/
theorem PGE.ctx {s g : Nat} {F : Prop} {c : Int32} {μ ν ξ : gM} (p : PGE s g μ ν) (h : CTX s F c ν ξ) : CTX s False 0 μ ξ := by
  obtain ⟨hn, ⟨n0, n1, n2, n3, n4, n5, n6⟩, hw, a1, a2, -⟩ := h
  obtain ⟨p1, p2, p3, p4, p5, p8, p9, p10⟩ := p
  refine ⟨hn.fr p1 rfl, ⟨(p2 0 (by omega)).trans n0, (p2 1 (by omega)).trans n1, (p2 2 (by omega)).trans n2, (p2 3 (by omega)).trans n3, (p2 4 (by omega)).trans n4, (p2 5 (by omega)).trans n5, n6⟩, fun h k m => ?_, p8, a2, fun f => absurd f id⟩
  obtain ⟨w9, w10, w11⟩ := p4 h k m.1 m.2.1 (by rw [hn.m11 m.1]; exact m.2.2)
  obtain ⟨x1, x2, x3, x4⟩ := hw h k m
  exact ⟨w9.trans x1, x2, w10.trans x3, by rw [w11, w10]; exact x4⟩
theorem PGE.grp {s g : Nat} {μ ν ξ : gM} (p : PGE s g μ ν) (hg : g < 5) (nt : NET ν ξ) (h : GRP s g no l0 ν ξ) : GRP s g no l0 μ ξ := by
  obtain ⟨p1, p2, p3, p4, ⟨p5, p6, p7⟩, p8, p9, p10⟩ := p
  obtain ⟨h1, h2, h3, h4⟩ := h
  refine ⟨fun k m x => ?_, fun k hk m => by rw [p5]; exact h2 k hk m, fun k q1 q2 => by rw [p5]; exact h3 k q1 q2, p6.trans h4⟩
  obtain ⟨w12, w13⟩ := p7 k m.2.1 (by rw [nt.m11 hg]; exact m.2.2)
  have := h1 k m x
  unfold ST at *
  rw [w12, w13, p5]
  exact this
theorem mkPGE {s g : Nat} {F G : Prop} {c d : Int32} {μ ν ξ : gM} (hg : g < 5) (hA : ∀ a, 4 ≤ a → a ≤ 16 → μ a = ν a) (h8 : μ s 8 = ν s 8) (hP : μ (s + 1) 0 = ν (s + 1) 0 ∧ ∀ i, i < 100 → μ (s + 2) i = ν (s + 2) i) (x : CTX s F c μ ξ) (y : CTX s G d ν ξ) (u : GRP s g no l0 μ ξ) (v : GRP s g no l0 ν ξ) (hb : HB6 s μ) : PGE s g μ ν := by
  obtain ⟨xn, ⟨x0, x1, x2, x3, x4, x5, -⟩, xw, xb, -, -⟩ := x
  obtain ⟨yn, ⟨y0, y1, y2, y3, y4, y5, -⟩, yw, yb, -, -⟩ := y
  refine ⟨hA, fun i hi => ?_, hP, fun h k hh hk m => ?_, ⟨bt_ext (fun k hk => ?_), u.2.2.2.trans v.2.2.2.symm, fun k hk m => ?_⟩, xb, yb, hb⟩
  · have : i = 0 ∨ i = 1 ∨ i = 2 ∨ i = 3 ∨ i = 4 ∨ i = 5 ∨ i = 8 := by omega
    rcases this with rfl | rfl | rfl | rfl | rfl | rfl | rfl
    · exact x0.trans y0.symm
    · exact x1.trans y1.symm
    · exact x2.trans y2.symm
    · exact x3.trans y3.symm
    · exact x4.trans y4.symm
    · exact x5.trans y5.symm
    · exact h8
  · have mm : mem (ξ 269) h k := ⟨hh, hk, by rw [← yn.m11 hh]; exact m⟩
    obtain ⟨a1, a2, a3, a4⟩ := xw h k mm
    obtain ⟨b1, b2, b3, b4⟩ := yw h k mm
    exact ⟨a1.trans b1.symm, a3.trans b3.symm, by rw [a4, b4, a3, b3]⟩
  · by_cases c6 : k < 6
    · rcases u.hb hg c6 with ⟨a, b, -⟩ | ⟨a, b, -⟩ | ⟨a, b, -⟩
      · rcases v.hb hg c6 with ⟨a', b', -⟩ | ⟨a', b', -⟩ | ⟨a', b', -⟩
        · rw [b, b']
        · rw [b, b']
        · rw [a] at a'; exact absurd a' (by decide)
      · rcases v.hb hg c6 with ⟨a', b', -⟩ | ⟨a', b', -⟩ | ⟨a', b', -⟩
        · rw [b, b']
        · rw [b, b']
        · rw [a] at a'; exact absurd a' (by decide)
      · rcases v.hb hg c6 with ⟨a', b', -⟩ | ⟨a', b', -⟩ | ⟨a', b', -⟩
        · rw [a] at a'; exact absurd a' (by decide)
        · rw [a] at a'; exact absurd a' (by decide)
        · rw [b, b']
    · rw [u.2.2.1 k (by omega) hk, v.2.2.1 k (by omega) hk]
  · have mm : mem (ξ 269) g k := ⟨hg, hk, by rw [← yn.m11 hg]; exact m⟩
    obtain ⟨a1, a2, -⟩ := u.1 k mm id
    obtain ⟨b1, b2, -⟩ := v.1 k mm id
    exact ⟨a1.trans b1.symm, a2.trans b2.symm⟩
