/-! on paper, one group alone: the page beside a ghost of all groups -/
def BL (s : Nat) (μ : gM) : Prop := (0 ≤ (μ (s + 3) 0).toInt ∧ (μ (s + 3) 0).toInt ≤ 60) ∧ 0 ≤ (μ (s + 3) 1).toInt ∧ (μ (s + 3) 1).toInt ≤ 59
def PGE (s g : Nat) (μ ν : gM) : Prop := (∀ a, 4 ≤ a → a ≤ 16 → μ a = ν a) ∧ (∀ i, i < 6 ∨ i = 8 → μ s i = ν s i) ∧ (μ (s + 1) 0 = ν (s + 1) 0 ∧ ∀ i, i < 100 → μ (s + 2) i = ν (s + 2) i) ∧ (∀ h k, h < 5 → k < 6 → bt (ν 11 h) k = true → μ (s + 9) (6 * h + k) = ν (s + 9) (6 * h + k) ∧ μ (s + 10) (6 * h + k) = ν (s + 10) (6 * h + k) ∧ μ (s + 11) (6 * h + k) = ν (s + 11) (6 * h + k)) ∧ (μ (s + 5) g = ν (s + 5) g ∧ μ (s + 8) g = ν (s + 8) g ∧ ∀ k, k < 6 → bt (ν 11 g) k = true → μ (s + 12) (6 * g + k) = ν (s + 12) (6 * g + k) ∧ μ (s + 13) (6 * g + k) = ν (s + 13) (6 * g + k)) ∧ BL s μ ∧ BL s ν ∧ HB6 s μ
theorem hOr63 {x : Int32} {k : Nat} (hk : k < 6) (h : 0 ≤ x.toInt ∧ x.toInt ≤ 63) : 0 ≤ (x ||| ((1 : Int32) <<< (nI k &&& 31))).toInt ∧ (x ||| ((1 : Int32) <<< (nI k &&& 31))).toInt ≤ 63 := bt_63 (fun j h1 h2 => by
  rw [(btOr (x := x) (k := k) (by omega)).2 j h2 (by omega)]
  exact bt_small (K := 6) h.1 (by have : ((2 ^ 6 : Nat) : Int) = 64 := rfl; omega) h1)
theorem upd_at (f : Nat → Int32) (i : Nat) (v : Int32) (j : Nat) : upd f i v j = if j = i then v else f j := rfl
/-- what cAct does: the class alone -/
def AC (s h k : Nat) (μ μ' : gM) : Prop := AF s μ μ' ∧ BL s μ' ∧ ((μ (s + 10) (6 * h + k) = 255 ∧ μ' (s + 5) = upd (μ (s + 5)) h (μ (s + 5) h ||| ((1 : Int32) <<< (nI k &&& 31))) ∧ μ' (s + 8) = upd (μ (s + 8)) h (μ (s + 8) h + 1) ∧ μ' (s + 12) = upd (μ (s + 12)) (6 * h + k) 0 ∧ μ' (s + 13) = upd (μ (s + 13)) (6 * h + k) (-1)) ∨ (¬ μ (s + 10) (6 * h + k) = 255 ∧ μ' (s + 5) = μ (s + 5) ∧ μ' (s + 8) = μ (s + 8) ∧ μ' (s + 12) = upd (μ (s + 12)) (6 * h + k) ((3 : Int32) * μ 7 h + μ (s + 11) (6 * h + k)) ∧ μ' (s + 13) = upd (μ (s + 13)) (6 * h + k) (-1))) ∧ μ' s = μ s
theorem cActT {s h k : Nat} {μ : gM} (hh : h < 5) (hk : k < 6) (bl : BL s μ) : ∃ μ', cAct s h k μ = some μ' ∧ AC s h k μ μ' := by
  unfold cAct
  by_cases c : μ (s + 10) (6 * h + k) = 255
  · rw [if_pos c]
    obtain ⟨μ', e, q⟩ := cHold hh hk bl
    have d := q.dg hk
    exact ⟨μ', e, d.af, q.2.2.2.2.2.2.b, Or.inl ⟨c, q.2.1, q.2.2.2.2.1, q.2.2.1, q.2.2.2.1⟩, q.1 s (by omega) (by omega) (by omega) (by omega) (by omega) (by omega) (by omega)⟩
  · rw [if_neg c]
    obtain ⟨μ', e, q⟩ := cAwait (s := s) (μ := μ) hh hk
    have w : ∀ a, a ≠ s + 12 → a ≠ s + 13 → μ' a = μ a := q.1
    refine ⟨μ', e, ⟨fun a ha => w a (by omega) (by omega), fun i _ => by rw [w _ (by omega) (by omega)], fun i _ _ _ _ => by rw [w _ (by omega) (by omega)]⟩, ?_, Or.inr ⟨c, w _ (by omega) (by omega), w _ (by omega) (by omega), q.2.1, q.2.2⟩, w s (by omega) (by omega)⟩
    unfold BL
    rw [w _ (by omega) (by omega)]
    exact bl
theorem PGE.ac {s g h k : Nat} {μ ν μ' ν' : gM} (hs : 34 ≤ s) (p : PGE s g μ ν) (hh : h < 5) (hk : k < 6) (mb : bt (ν 11 h) k = true) (a : AC s h k μ μ') (b : AC s h k ν ν') : PGE s g μ' ν' := by
  obtain ⟨p1, p2, p3, p4, ⟨p5, p6, p7⟩, p8, p9, p10⟩ := p
  obtain ⟨w9, w10, w11⟩ := p4 h k hh hk mb
  obtain ⟨af, abl, ac, as⟩ := a
  obtain ⟨bf, bbl, bc, bs⟩ := b
  have e7 : μ 7 h = ν 7 h := congrFun (p1 7 (by decide) (by decide)) h
  have n11 : ν' 11 = ν 11 := bf.1 11 (by omega)
  refine ⟨fun a h1 h2 => by rw [af.1 a (by omega), bf.1 a (by omega)]; exact p1 a h1 h2, fun i hi => by rw [as, bs]; exact p2 i hi, by rw [af.1 (s + 1) (by omega), af.1 (s + 2) (by omega), bf.1 (s + 1) (by omega), bf.1 (s + 2) (by omega)]; exact p3, by rw [af.1 (s + 9) (by omega), af.1 (s + 10) (by omega), af.1 (s + 11) (by omega), bf.1 (s + 9) (by omega), bf.1 (s + 10) (by omega), bf.1 (s + 11) (by omega), n11]; exact p4, ?_, abl, bbl, ?_⟩
  · rw [n11]
    rcases ac with ⟨a1, a2, a3, a4, a5⟩ | ⟨a1, a2, a3, a4, a5⟩
    · rcases bc with ⟨b1, b2, b3, b4, b5⟩ | ⟨b1, -⟩
      · rw [a2, a3, a4, a5, b2, b3, b4, b5]
        refine ⟨?_, ?_, fun j hj m => ⟨?_, ?_⟩⟩
        · rw [upd_at, upd_at]
          by_cases e : g = h
          · subst e; rw [if_pos rfl, if_pos rfl, p5]
          · rw [if_neg e, if_neg e]; exact p5
        · rw [upd_at, upd_at]
          by_cases e : g = h
          · subst e; rw [if_pos rfl, if_pos rfl, p6]
          · rw [if_neg e, if_neg e]; exact p6
        · rw [upd_at, upd_at]
          by_cases e : 6 * g + j = 6 * h + k
          · rw [if_pos e, if_pos e]
          · rw [if_neg e, if_neg e]; exact (p7 j hj m).1
        · rw [upd_at, upd_at]
          by_cases e : 6 * g + j = 6 * h + k
          · rw [if_pos e, if_pos e]
          · rw [if_neg e, if_neg e]; exact (p7 j hj m).2
      · exact absurd (w10.symm.trans a1) b1
    · rcases bc with ⟨b1, -⟩ | ⟨b1, b2, b3, b4, b5⟩
      · exact absurd (w10.trans b1) a1
      · rw [a2, a3, a4, a5, b2, b3, b4, b5]
        refine ⟨p5, p6, fun j hj m => ⟨?_, ?_⟩⟩
        · rw [upd_at, upd_at]
          by_cases e : 6 * g + j = 6 * h + k
          · rw [if_pos e, if_pos e, e7, w11]
          · rw [if_neg e, if_neg e]; exact (p7 j hj m).1
        · rw [upd_at, upd_at]
          by_cases e : 6 * g + j = 6 * h + k
          · rw [if_pos e, if_pos e]
          · rw [if_neg e, if_neg e]; exact (p7 j hj m).2
  · intro j hj
    rcases ac with ⟨a1, a2, -⟩ | ⟨a1, a2, -⟩
    · rw [a2, upd_at]
      by_cases e : j = h
      · subst e; rw [if_pos rfl]; exact hOr63 hk (p10 j hj)
      · rw [if_neg e]; exact p10 j hj
    · rw [a2]; exact p10 j hj
theorem cRl15 {s h m cg : Nat} {M : Int32} {μ : gM} (h5 : μ 5 2 = nI cg) (hc : cg ≤ 5) (hh : h < cg) : fX10_raise_l15 s (m + 1) M (nI h) μ = fX10_raise_l30 s (fX10_raise_l15 s m) 100000 M (nI h) (nI 0) μ := by
  rw [fX10_raise_l15, h5, if_neg (fun w => by have := (nIle (by omega) (by omega)).mp w; omega)]
  rfl
theorem cRl15e {s m cg : Nat} {M : Int32} {μ : gM} (h5 : μ 5 2 = nI cg) (hc : cg ≤ 5) : fX10_raise_l15 s (m + 1) M (nI cg) μ = some μ := by
  rw [fX10_raise_l15, h5, if_pos ((nIle (by omega) (by omega)).mpr (Nat.le_refl _))]
theorem PGE.rise_l {s g k cg : Nat} {M : Int32} (hs : 34 ≤ s) (hk : k < 6) (hc : cg ≤ 5) (hM : ∀ i, i < 6 → bt M i = decide (i = k)) : ∀ (m h : Nat) (μ ν : gM), PGE s g μ ν → ν 5 2 = nI cg → h ≤ cg → 5 < h + m → ∃ μ' ν', fX10_raise_l15 s m M (nI h) μ = some μ' ∧ fX10_raise_l15 s m M (nI h) ν = some ν' ∧ PGE s g μ' ν' ∧ AF s μ μ' ∧ AF s ν ν' := by
  intro m
  induction m with
  | zero => intro h μ ν p h5 h1 h2; omega
  | succ m ih =>
    intro h μ ν p h5 h1 h2
    have m5 : μ 5 2 = nI cg := by rw [p.1 5 (by decide) (by decide)]; exact h5
    by_cases c : h = cg
    · subst c
      exact ⟨μ, ν, cRl15e m5 hc, cRl15e h5 hc, p, AF.rf _ _, AF.rf _ _⟩
    · obtain ⟨μ1, e1, a1⟩ := cActT (s := s) (h := h) (k := k) (μ := μ) (by omega) hk p.2.2.2.2.2.1
      obtain ⟨ν1, e2, a2⟩ := cActT (s := s) (h := h) (k := k) (μ := ν) (by omega) hk p.2.2.2.2.2.2.1
      have r1 := cRise_1 (M := M) (μ := μ) (K := fX10_raise_l15 s m) (by omega : h < 5) hk hM (fun x hx => by rw [e1] at hx; obtain rfl := Option.some.inj hx; exact a1.1.1 11 (by omega)) 100000 0 (Nat.zero_le _) (by omega)
      have r2 := cRise_1 (M := M) (μ := ν) (K := fX10_raise_l15 s m) (by omega : h < 5) hk hM (fun x hx => by rw [e2] at hx; obtain rfl := Option.some.inj hx; exact a2.1.1 11 (by omega)) 100000 0 (Nat.zero_le _) (by omega)
      have e11 : μ 11 h = ν 11 h := congrFun (p.1 11 (by decide) (by decide)) h
      rw [cRl15 m5 hc (by omega), cRl15 h5 hc (by omega), r1, r2, e11]
      by_cases b : bt (ν 11 h) k = false
      · rw [if_pos b, if_pos b]
        exact ih (h + 1) μ ν p h5 (by omega) (by omega)
      · rw [if_neg b, if_neg b, e1, e2, zBd_some, zBd_some]
        have b' : bt (ν 11 h) k = true := by rw [← Bool.not_eq_false]; exact b
        obtain ⟨μ', ν', f1, f2, q, f3, f4⟩ := ih (h + 1) μ1 ν1 (p.ac hs (by omega) hk b' a1 a2) (by rw [a2.1.1 5 (by omega)]; exact h5) (by omega) (by omega)
        exact ⟨μ', ν', f1, f2, q, a1.1.tr f3, a2.1.tr f4⟩
/-- a number of the state is set alike -/
theorem PGE.set {s g i : Nat} {v : Int32} {μ ν : gM} (hs : 34 ≤ s) (p : PGE s g μ ν) : PGE s g (gUp μ s i v) (gUp ν s i v) := by
  have wm : ∀ a, a ≠ s → gUp μ s i v a = μ a := fun a ha => zUp_ne _ ha
  have wn : ∀ a, a ≠ s → gUp ν s i v a = ν a := fun a ha => zUp_ne _ ha
  obtain ⟨p1, p2, p3, p4, p5, p8, p9, p10⟩ := p
  refine ⟨fun a h1 h2 => by rw [wm a (by omega), wn a (by omega)]; exact p1 a h1 h2, fun j hj => ?_, ?_, ?_, ?_, ?_, ?_, fun j hj => ?_⟩
  · by_cases e : j = i
    · subst e; rw [zUp_same, zUp_same]
    · rw [zUp_slot _ e, zUp_slot _ e]; exact p2 j hj
  · rw [wm (s + 1) (by omega), wm (s + 2) (by omega), wn (s + 1) (by omega), wn (s + 2) (by omega)]; exact p3
  · rw [wm (s + 9) (by omega), wm (s + 10) (by omega), wm (s + 11) (by omega), wn (s + 9) (by omega), wn (s + 10) (by omega), wn (s + 11) (by omega), wn 11 (by omega)]; exact p4
  · rw [wm (s + 5) (by omega), wm (s + 8) (by omega), wm (s + 12) (by omega), wm (s + 13) (by omega), wn (s + 5) (by omega), wn (s + 8) (by omega), wn (s + 12) (by omega), wn (s + 13) (by omega), wn 11 (by omega)]; exact p5
  · unfold BL; rw [wm (s + 3) (by omega)]; exact p8
  · unfold BL; rw [wn (s + 3) (by omega)]; exact p9
  · rw [wm (s + 5) (by omega)]; exact p10 j hj
theorem setAF {s : Nat} {v : Int32} {μ : gM} : AF s μ (gUp μ s 1 v) := ⟨fun a ha => zUp_ne _ (by omega), fun i _ => by rw [zUp_ne _ (by omega)], fun i h1 _ _ _ => zUp_slot _ h1⟩
theorem PGE.rise {s g k cg : Nat} {M : Int32} {μ ν : gM} (hs : 34 ≤ s) (p : PGE s g μ ν) (hk : k < 6) (hc : cg ≤ 5) (h5 : ν 5 2 = nI cg) (hM : M = (1 : Int32) <<< (nI k &&& 31)) : ∃ μ' ν', fX10_raise s M μ = some μ' ∧ fX10_raise s M ν = some ν' ∧ PGE s g μ' ν' ∧ AF s μ μ' ∧ AF s ν ν' := by
  have hM' : ∀ i, i < 6 → bt M i = decide (i = k) := fun i hi => by rw [hM]; exact bt_one k (by omega) i (by omega)
  unfold fX10_raise
  rw [zLt_eq, zLt_eq, p.2.1 1 (by omega)]
  obtain ⟨μ', ν', e1, e2, q, f1, f2⟩ := PGE.rise_l (g := g) (M := M) hs hk hc hM' 100000 0 (gUp μ s 1 (ν s 1 ||| M)) (gUp ν s 1 (ν s 1 ||| M)) (p.set hs) (by rw [zUp_ne _ (by omega)]; exact h5) (by omega) (by omega)
  exact ⟨μ', ν', e1, e2, q, setAF.tr f1, setAF.tr f2⟩
/-- a gate goes down: the class alone -/
def LQ (s h k : Nat) (μ μ' : gM) : Prop := (∀ a, a ≠ s + 3 → a ≠ s + 4 → a ≠ s + 5 → a ≠ s + 12 → a ≠ s + 13 → μ' a = μ a) ∧ μ' (s + 5) = upd (μ (s + 5)) h (μ (s + 5) h &&& (((1 : Int32) <<< (nI k &&& 31)) ^^^ (-1 : Int32))) ∧ μ' (s + 12) = upd (μ (s + 12)) (6 * h + k) 0 ∧ μ' (s + 13) = upd (μ (s + 13)) (6 * h + k) (-1) ∧ BL s μ'
theorem upd_id (f : Nat → Int32) (i : Nat) (v : Int32) (e : v = f i) : upd f i v = f := by
  funext j
  rw [upd_at]
  by_cases c : j = i
  · subst c; rw [if_pos rfl, e]
  · rw [if_neg c]
theorem fgt_row {s h k : Nat} {μ : gM} : fgt s h k μ (s + 12) = upd (μ (s + 12)) (6 * h + k) 0 ∧ fgt s h k μ (s + 13) = upd (μ (s + 13)) (6 * h + k) (-1) := by
  unfold fgt
  constructor
  · rw [zUp_ne _ (by omega), zUp_row]
  · rw [zUp_row, zUp_ne _ (by omega)]
theorem cLow1 {s h k m cg : Nat} {y3 : Int32} {μ : gM} (hs : 34 ≤ s) (hh : h < 5) (hk : k < 6) (h5 : μ 5 2 = nI cg) (hc : h < cg) (hc5 : cg ≤ 5) (bl : BL s μ) : ∃ y3' μ1, fX10_lower_l22 s (m + 1) (nI k) 0 y3 (nI h) μ = fX10_lower_l22 s m (nI k) 0 y3' (nI (h + 1)) μ1 ∧ LQ s h k μ μ1 := by
  rw [cDown1 hh hk hs h5 hc hc5]
  by_cases b : bt (μ (s + 5) h) k = true
  · rw [if_pos b]
    generalize eν : gUp μ (s + 5) h (μ (s + 5) h &&& (((1 : Int32) <<< (nI k &&& 31)) ^^^ (-1 : Int32))) = ν
    have wn : ∀ a, a ≠ s + 5 → ν a = μ a := fun a ha => by rw [← eν, zUp_ne _ ha]
    obtain ⟨μ2, e, f, la⟩ := cAdd (p := s + 3) (t := μ s 0) (g := nI h) (k := nI k) (w := 2) (μ := ν) (by rw [wn _ (by omega)]; exact bl.1) (by rw [wn _ (by omega)]; exact bl.2)
    rw [e, zBd_some, if_pos rfl]
    have w2 : ∀ a, a ≠ s + 3 → a ≠ s + 4 → a ≠ s + 5 → μ2 a = μ a := fun a h1 h2 h3 => by rw [f a h1 (by omega), wn a h3]
    refine ⟨_, _, rfl, fun a h1 h2 h3 h4 h6 => by rw [fgt_x.1 a h4 h6, w2 a h1 h2 h3], ?_, ?_, ?_, ?_⟩
    · rw [fgt_x.1 _ (by omega) (by omega), f _ (by omega) (by omega), ← eν, zUp_row]
    · rw [fgt_row.1, w2 _ (by omega) (by omega) (by omega)]
    · rw [fgt_row.2, w2 _ (by omega) (by omega) (by omega)]
    · have := la.b
      unfold BL
      rw [fgt_x.1 _ (by omega) (by omega)]
      exact this
  · rw [if_neg b]
    have b' : bt (μ (s + 5) h) k = false := by rw [← Bool.not_eq_true]; exact b
    refine ⟨_, _, rfl, fun a h1 h2 h3 h4 h6 => fgt_x.1 a h4 h6, ?_, fgt_row.1, fgt_row.2, ?_⟩
    · rw [fgt_x.1 _ (by omega) (by omega), upd_id _ _ _ (and_not_id (by omega) b')]
    · unfold BL
      rw [fgt_x.1 _ (by omega) (by omega)]
      exact bl
theorem LQ.af {s h k : Nat} {μ μ' : gM} (q : LQ s h k μ μ') : AF s μ μ' := ⟨fun a ha => q.1 a (by omega) (by omega) (by omega) (by omega) (by omega), fun i _ => by rw [q.1 _ (by omega) (by omega) (by omega) (by omega) (by omega)], fun i _ _ _ _ => by rw [q.1 _ (by omega) (by omega) (by omega) (by omega) (by omega)]⟩
theorem PGE.lq {s g h k : Nat} {μ ν μ' ν' : gM} (hs : 34 ≤ s) (p : PGE s g μ ν) (a : LQ s h k μ μ') (b : LQ s h k ν ν') : PGE s g μ' ν' := by
  obtain ⟨p1, p2, p3, p4, ⟨p5, p6, p7⟩, p8, p9, p10⟩ := p
  obtain ⟨wa, a5, a12, a13, abl⟩ := a
  obtain ⟨wb, b5, b12, b13, bbl⟩ := b
  have n11 : ν' 11 = ν 11 := wb 11 (by omega) (by omega) (by omega) (by omega) (by omega)
  refine ⟨fun a h1 h2 => by rw [wa a (by omega) (by omega) (by omega) (by omega) (by omega), wb a (by omega) (by omega) (by omega) (by omega) (by omega)]; exact p1 a h1 h2, fun i hi => by rw [wa s (by omega) (by omega) (by omega) (by omega) (by omega), wb s (by omega) (by omega) (by omega) (by omega) (by omega)]; exact p2 i hi, by rw [wa (s + 1) (by omega) (by omega) (by omega) (by omega) (by omega), wa (s + 2) (by omega) (by omega) (by omega) (by omega) (by omega), wb (s + 1) (by omega) (by omega) (by omega) (by omega) (by omega), wb (s + 2) (by omega) (by omega) (by omega) (by omega) (by omega)]; exact p3, by rw [wa (s + 9) (by omega) (by omega) (by omega) (by omega) (by omega), wa (s + 10) (by omega) (by omega) (by omega) (by omega) (by omega), wa (s + 11) (by omega) (by omega) (by omega) (by omega) (by omega), wb (s + 9) (by omega) (by omega) (by omega) (by omega) (by omega), wb (s + 10) (by omega) (by omega) (by omega) (by omega) (by omega), wb (s + 11) (by omega) (by omega) (by omega) (by omega) (by omega), n11]; exact p4, ⟨?_, by rw [wa (s + 8) (by omega) (by omega) (by omega) (by omega) (by omega), wb (s + 8) (by omega) (by omega) (by omega) (by omega) (by omega)]; exact p6, fun j hj m => ?_⟩, abl, bbl, fun j hj => ?_⟩
  · rw [a5, b5, upd_at, upd_at]
    by_cases e : g = h
    · subst e; rw [if_pos rfl, if_pos rfl, p5]
    · rw [if_neg e, if_neg e]; exact p5
  · rw [n11] at m
    rw [a12, a13, b12, b13, upd_at, upd_at, upd_at, upd_at]
    by_cases e : 6 * g + j = 6 * h + k
    · rw [if_pos e, if_pos e, if_pos e, if_pos e]; exact ⟨rfl, rfl⟩
    · rw [if_neg e, if_neg e, if_neg e, if_neg e]; exact p7 j hj m
  · rw [a5, upd_at]
    by_cases e : j = h
    · subst e; rw [if_pos rfl]; exact andX63 (p10 j hj)
    · rw [if_neg e]; exact p10 j hj
theorem PGE.low_l {s g k cg : Nat} (hs : 34 ≤ s) (hk : k < 6) (hc : cg ≤ 5) : ∀ (m h : Nat) (y3 z3 : Int32) (μ ν : gM), PGE s g μ ν → ν 5 2 = nI cg → h ≤ cg → 5 < h + m → ∃ v w μ' ν', fX10_lower_l22 s m (nI k) 0 y3 (nI h) μ = some (v, μ') ∧ fX10_lower_l22 s m (nI k) 0 z3 (nI h) ν = some (w, ν') ∧ PGE s g μ' ν' ∧ AF s μ μ' ∧ AF s ν ν' := by
  intro m
  induction m with
  | zero => intro h y3 z3 μ ν p h5 h1 h2; omega
  | succ m ih =>
    intro h y3 z3 μ ν p h5 h1 h2
    have m5 : μ 5 2 = nI cg := by rw [p.1 5 (by decide) (by decide)]; exact h5
    by_cases c : h = cg
    · subst c
      rw [fX10_lower_l22, fX10_lower_l22, m5, h5, if_pos ((nIle (by omega) (by omega)).mpr (Nat.le_refl _)), if_pos ((nIle (by omega) (by omega)).mpr (Nat.le_refl _))]
      exact ⟨_, _, _, _, rfl, rfl, p, AF.rf _ _, AF.rf _ _⟩
    · obtain ⟨y', μ1, e1, a1⟩ := cLow1 (m := m) (y3 := y3) hs (by omega : h < 5) hk m5 (by omega) hc p.2.2.2.2.2.1
      obtain ⟨z', ν1, e2, a2⟩ := cLow1 (m := m) (y3 := z3) hs (by omega : h < 5) hk h5 (by omega) hc p.2.2.2.2.2.2.1
      rw [e1, e2]
      obtain ⟨v, w, μ', ν', f1, f2, q, f3, f4⟩ := ih (h + 1) y' z' μ1 ν1 (p.lq hs a1 a2) (by rw [a2.af.1 5 (by omega)]; exact h5) (by omega) (by omega)
      exact ⟨v, w, μ', ν', f1, f2, q, a1.af.tr f3, a2.af.tr f4⟩
theorem PGE.low {s g k cg : Nat} {μ ν : gM} (hs : 34 ≤ s) (p : PGE s g μ ν) (hk : k < 6) (hc : cg ≤ 5) (h5 : ν 5 2 = nI cg) : ∃ v w μ' ν', fX10_lower s (nI k) 0 μ = some (v, μ') ∧ fX10_lower s (nI k) 0 ν = some (w, ν') ∧ PGE s g μ' ν' ∧ AF s μ μ' ∧ AF s ν ν' := by
  unfold fX10_lower
  rw [zLt_eq, zLt_eq, p.2.1 1 (by omega)]
  obtain ⟨v, w, μ', ν', e1, e2, q, f1, f2⟩ := PGE.low_l (g := g) (k := k) hs hk hc 100000 0 0 0 (gUp μ s 1 (ν s 1 &&& (((1 : Int32) <<< (nI k &&& 31)) ^^^ (-1 : Int32)))) (gUp ν s 1 (ν s 1 &&& (((1 : Int32) <<< (nI k &&& 31)) ^^^ (-1 : Int32)))) (p.set hs) (by rw [zUp_ne _ (by omega)]; exact h5) (by omega) (by omega)
  exact ⟨v, w, μ', ν', e1, e2, q, setAF.tr f1, setAF.tr f2⟩
