/-! the law: K over its own context; the script's ints are xs -/
def gLW (l : Launch) (g : gG) (b Ls : Nat) (xs : Nat → Int32) (K : gKt) : Prop :=
  ∃ (p : Program) (e : Env) (s : State) (m : MethodId) (below : List Frame) (meth : Method) (c : Code), lw_At p s m meth c b Ls xs ∧ g.1 = s.heap.size ∧ gK g s ∧
    ∀ (pc : Nat) (L : List (Option Value)) (st : List Value) (μ : gM), K pc L st μ ↔ ∀ (H : Heap) (locs : List Loc) (ls : Array Slot), gWd g μ H → va_S (gA g.1) s.heap H locs → gL ls 4 L → W p l e room_1 s m #[Value.ref b] below meth c H locs 278 20559 (lw_Z below #[Value.ref b] s) (F0 m pc ls st)
theorem gCallL {p : Program} {l : Launch} {e : Env} {R : Room} {s : State} {m : MethodId} {args : Array Value} {below : List Frame} {meth : Method} {c : Code} {H : Heap} {locs : List Loc} {cells slots : Nat} {Q : State → Prop} {pc : Nat} {ls : Array Slot} {st0 rest : List Value} {a : Array Value} {g : gG} {r : Option Value} {μ1 : gM}
    (hr : va_Run p l e R s m args below meth c H locs cells slots 0 0 (F0 m pc ls st0) rest (gQc g r μ1 a) (gA g.1)) (hS : va_S (gA g.1) s.heap H locs)
    (kk : ∀ (H1 : Heap) (locs1 : List Loc), gWd g μ1 H1 → va_S (gA g.1) s.heap H1 locs1 → W p l e R s m args below meth c H1 locs1 cells slots Q (F0 m (pc + 3) ls (r.toList ++ rest))) : W p l e R s m args below meth c H locs cells slots Q (F0 m pc ls st0) := by
  intro T hT X
  obtain ⟨v, st₀, t, T', L, h0, X', hL, e1, e2, ⟨hv, hw, hz, hq⟩, st⟩ := hr T hT X
  cases hv
  rw [h0] at hz hq
  obtain ⟨t2, a1, b1⟩ := kk T'.heap (locs ++ L) (by rw [e1]; exact hw)
    ⟨Nat.le_trans hS.1 (by rw [e1]; exact hz), fun q h1 h2 => by rw [e1, hq q (Nat.lt_of_lt_of_le h1 hS.1) h2]; exact hS.2.1 q h1 h2, fun q hq => by
      rcases List.mem_append.mp hq with h | h
      · exact hS.2.2 q h
      · exact hL q h⟩ T' rfl X'
  exact ⟨t2, st t2 a1, b1⟩
theorem zl_iconst {l : Launch} {g : gG} {b Ls : Nat} {xs : Nat → Int32} {K : gKt} (h : gLW l g b Ls xs K) {pc : Nat} {L : List (Option Value)} {st : List Value} {μ : gM} {i : Int} {v : Int32} (hd : decode cL_law pc = .ok (.iconst i, 1)) (hv : Int32.ofInt i = v) (k : K (pc + 1) L (.int v :: st) μ) : K pc L (st) μ := by
  obtain ⟨p, e, s, m, below, meth, c, ⟨hx, hb, hr, hml, hown, hts, hX, hbl, hlocks, hgv⟩, hg, hk, hK⟩ := h
  refine (hK _ _ _ _).mpr (fun H locs ls hP hS hL => ?_)
  exact lv_iconst hx hb hd hv ((hK _ _ _ _).mp k H locs ls hP hS hL)
theorem zl_bipush {l : Launch} {g : gG} {b Ls : Nat} {xs : Nat → Int32} {K : gKt} (h : gLW l g b Ls xs K) {pc : Nat} {L : List (Option Value)} {st : List Value} {μ : gM} {i : Int} {v : Int32} (hd : decode cL_law pc = .ok (.bipush i, 2)) (hv : (Int8.ofInt i).toInt32 = v) (k : K (pc + 2) L (.int v :: st) μ) : K pc L (st) μ := by
  obtain ⟨p, e, s, m, below, meth, c, ⟨hx, hb, hr, hml, hown, hts, hX, hbl, hlocks, hgv⟩, hg, hk, hK⟩ := h
  refine (hK _ _ _ _).mpr (fun H locs ls hP hS hL => ?_)
  exact lv_bipush hx hb hd hv ((hK _ _ _ _).mp k H locs ls hP hS hL)
theorem zl_iadd {l : Launch} {g : gG} {b Ls : Nat} {xs : Nat → Int32} {K : gKt} (h : gLW l g b Ls xs K) {pc : Nat} {L : List (Option Value)} {st : List Value} {μ : gM} {x y : Int32} (hd : decode cL_law pc = .ok (.iadd, 1))  (k : K (pc + 1) L (.int (x + y) :: st) μ) : K pc L (.int y :: .int x :: st) μ := by
  obtain ⟨p, e, s, m, below, meth, c, ⟨hx, hb, hr, hml, hown, hts, hX, hbl, hlocks, hgv⟩, hg, hk, hK⟩ := h
  refine (hK _ _ _ _).mpr (fun H locs ls hP hS hL => ?_)
  exact lv_iadd hx hb hd  ((hK _ _ _ _).mp k H locs ls hP hS hL)
theorem zl_isub {l : Launch} {g : gG} {b Ls : Nat} {xs : Nat → Int32} {K : gKt} (h : gLW l g b Ls xs K) {pc : Nat} {L : List (Option Value)} {st : List Value} {μ : gM} {x y : Int32} (hd : decode cL_law pc = .ok (.isub, 1))  (k : K (pc + 1) L (.int (x - y) :: st) μ) : K pc L (.int y :: .int x :: st) μ := by
  obtain ⟨p, e, s, m, below, meth, c, ⟨hx, hb, hr, hml, hown, hts, hX, hbl, hlocks, hgv⟩, hg, hk, hK⟩ := h
  refine (hK _ _ _ _).mpr (fun H locs ls hP hS hL => ?_)
  exact lv_isub hx hb hd  ((hK _ _ _ _).mp k H locs ls hP hS hL)
theorem zl_iand {l : Launch} {g : gG} {b Ls : Nat} {xs : Nat → Int32} {K : gKt} (h : gLW l g b Ls xs K) {pc : Nat} {L : List (Option Value)} {st : List Value} {μ : gM} {x y : Int32} (hd : decode cL_law pc = .ok (.iand, 1))  (k : K (pc + 1) L (.int (x &&& y) :: st) μ) : K pc L (.int y :: .int x :: st) μ := by
  obtain ⟨p, e, s, m, below, meth, c, ⟨hx, hb, hr, hml, hown, hts, hX, hbl, hlocks, hgv⟩, hg, hk, hK⟩ := h
  refine (hK _ _ _ _).mpr (fun H locs ls hP hS hL => ?_)
  exact lv_iand hx hb hd  ((hK _ _ _ _).mp k H locs ls hP hS hL)
theorem zl_iload_n {l : Launch} {g : gG} {b Ls : Nat} {xs : Nat → Int32} {K : gKt} (h : gLW l g b Ls xs K) {pc : Nat} {L : List (Option Value)} {st : List Value} {μ : gM} {q : Fin 4} {i : Nat} {x : Int32} (hd : decode cL_law pc = .ok (.iload_n q, 1)) (hi : (q : Nat) = i) (hl : L[i]? = some (some (.int x))) (k : K (pc + 1) L (.int x :: st) μ) : K pc L st μ := by
  obtain ⟨p, e, s, m, below, meth, c, ⟨hx, hb, hr, hml, hown, hts, hX, hbl, hlocks, hgv⟩, hg, hk, hK⟩ := h
  refine (hK _ _ _ _).mpr (fun H locs ls hP hS hL => ?_)
  exact lv_iload_n hx hb hd hi (hL.2.2 _ _ hl) ((hK _ _ _ _).mp k H locs ls hP hS hL)
theorem zl_aload_n {l : Launch} {g : gG} {b Ls : Nat} {xs : Nat → Int32} {K : gKt} (h : gLW l g b Ls xs K) {pc : Nat} {L : List (Option Value)} {st : List Value} {μ : gM} {q : Fin 4} {i : Nat} {x : Nat} (hd : decode cL_law pc = .ok (.aload_n q, 1)) (hi : (q : Nat) = i) (hl : L[i]? = some (some (.ref x))) (k : K (pc + 1) L (.ref x :: st) μ) : K pc L st μ := by
  obtain ⟨p, e, s, m, below, meth, c, ⟨hx, hb, hr, hml, hown, hts, hX, hbl, hlocks, hgv⟩, hg, hk, hK⟩ := h
  refine (hK _ _ _ _).mpr (fun H locs ls hP hS hL => ?_)
  exact lv_aload_n hx hb hd hi (hL.2.2 _ _ hl) ((hK _ _ _ _).mp k H locs ls hP hS hL)
theorem zl_istore_n {l : Launch} {g : gG} {b Ls : Nat} {xs : Nat → Int32} {K : gKt} (h : gLW l g b Ls xs K) {pc : Nat} {L : List (Option Value)} {st : List Value} {μ : gM} {q : Fin 4} {i : Nat} {x : Int32} (hd : decode cL_law pc = .ok (.istore_n q, 1)) (hi : (q : Nat) = i) (hn : i < 4) (ho : gOk L i = true) (k : K (pc + 1) (L.set i (some (.int x))) st μ) : K pc L (.int x :: st) μ := by
  obtain ⟨p, e, s, m, below, meth, c, ⟨hx, hb, hr, hml, hown, hts, hX, hbl, hlocks, hgv⟩, hg, hk, hK⟩ := h
  refine (hK _ _ _ _).mpr (fun H locs ls hP hS hL => ?_)
  exact lv_istore_n hx hb hd hi hL.has hn rfl (fun ls' h' => (hK _ _ _ _).mp k H locs ls' hP hS (gL.put h' ho))
theorem zl_iinc {l : Launch} {g : gG} {b Ls : Nat} {xs : Nat → Int32} {K : gKt} (h : gLW l g b Ls xs K) {pc : Nat} {L : List (Option Value)} {st : List Value} {μ : gM} {i : Nat} {n : Int} {x v : Int32} (hd : decode cL_law pc = .ok (.iinc i n, 3)) (hl : L[i]? = some (some (.int x))) (hv : x + Int32.ofInt n = v) (hn : i < 4) (ho : gOk L i = true) (k : K (pc + 3) (L.set i (some (.int v))) st μ) : K pc L st μ := by
  obtain ⟨p, e, s, m, below, meth, c, ⟨hx, hb, hr, hml, hown, hts, hX, hbl, hlocks, hgv⟩, hg, hk, hK⟩ := h
  refine (hK _ _ _ _).mpr (fun H locs ls hP hS hL => ?_)
  subst hv
  obtain ⟨q, hq⟩ := List.getElem?_of_mem (gAs_mem.mpr hl)
  exact lv_iinc hx hb hd hL.has hq rfl hn rfl (fun ls' h' => (hK _ _ _ _).mp k H locs ls' hP hS (gL.put h' ho))
theorem zl_pop {l : Launch} {g : gG} {b Ls : Nat} {xs : Nat → Int32} {K : gKt} (h : gLW l g b Ls xs K) {pc : Nat} {L : List (Option Value)} {st : List Value} {μ : gM} {x : Value} (hd : decode cL_law pc = .ok (.pop, 1)) (hc : x.category = 1) (k : K (pc + 1) L st μ) : K pc L (x :: st) μ := by
  obtain ⟨p, e, s, m, below, meth, c, ⟨hx, hb, hr, hml, hown, hts, hX, hbl, hlocks, hgv⟩, hg, hk, hK⟩ := h
  refine (hK _ _ _ _).mpr (fun H locs ls hP hS hL => ?_)
  exact lv_pop hx hb hd hc ((hK _ _ _ _).mp k H locs ls hP hS hL)
theorem zl_goto {l : Launch} {g : gG} {b Ls : Nat} {xs : Nat → Int32} {K : gKt} (h : gLW l g b Ls xs K) {pc : Nat} {L : List (Option Value)} {st : List Value} {μ : gM} {off : Int} {tgt : Nat} (hd : decode cL_law pc = .ok (.goto off, 3)) (ht : (pc : Int) + off = (tgt : Int)) (k : K tgt L st μ) : K pc L st μ := by
  obtain ⟨p, e, s, m, below, meth, c, ⟨hx, hb, hr, hml, hown, hts, hX, hbl, hlocks, hgv⟩, hg, hk, hK⟩ := h
  refine (hK _ _ _ _).mpr (fun H locs ls hP hS hL => ?_)
  exact lv_goto hx hb hd ht ((hK _ _ _ _).mp k H locs ls hP hS hL)
theorem zl_icmp_gt {l : Launch} {g : gG} {b Ls : Nat} {xs : Nat → Int32} {K : gKt} (h : gLW l g b Ls xs K) {pc : Nat} {L : List (Option Value)} {st : List Value} {μ : gM} {x y : Int32} {off : Int} {tgt : Nat} (hd : decode cL_law pc = .ok (.if_icmp .gt off, 3)) (ht : (pc : Int) + off = (tgt : Int)) (kt : y < x → K tgt L st μ) (kf : ¬ y < x → K (pc + 3) L st μ) : K pc L (.int y :: .int x :: st) μ := by
  obtain ⟨p, e, s, m, below, meth, c, ⟨hx, hb, hr, hml, hown, hts, hX, hbl, hlocks, hgv⟩, hg, hk, hK⟩ := h
  refine (hK _ _ _ _).mpr (fun H locs ls hP hS hL => ?_)
  exact lv_icmp_gt hx hb hd ht (fun q => (hK _ _ _ _).mp (kt q) H locs ls hP hS hL) (fun q => (hK _ _ _ _).mp (kf q) H locs ls hP hS hL)
theorem zl_icmp_eq {l : Launch} {g : gG} {b Ls : Nat} {xs : Nat → Int32} {K : gKt} (h : gLW l g b Ls xs K) {pc : Nat} {L : List (Option Value)} {st : List Value} {μ : gM} {x y : Int32} {off : Int} {tgt : Nat} (hd : decode cL_law pc = .ok (.if_icmp .eq off, 3)) (ht : (pc : Int) + off = (tgt : Int)) (kt : x = y → K tgt L st μ) (kf : ¬ x = y → K (pc + 3) L st μ) : K pc L (.int y :: .int x :: st) μ := by
  obtain ⟨p, e, s, m, below, meth, c, ⟨hx, hb, hr, hml, hown, hts, hX, hbl, hlocks, hgv⟩, hg, hk, hK⟩ := h
  refine (hK _ _ _ _).mpr (fun H locs ls hP hS hL => ?_)
  exact lv_icmp_eq hx hb hd ht (fun q => (hK _ _ _ _).mp (kt q) H locs ls hP hS hL) (fun q => (hK _ _ _ _).mp (kf q) H locs ls hP hS hL)
theorem zl_if_eq {l : Launch} {g : gG} {b Ls : Nat} {xs : Nat → Int32} {K : gKt} (h : gLW l g b Ls xs K) {pc : Nat} {L : List (Option Value)} {st : List Value} {μ : gM} {x : Int32} {off : Int} {tgt : Nat} (hd : decode cL_law pc = .ok (.ifCond .eq off, 3)) (ht : (pc : Int) + off = (tgt : Int)) (kt : x = 0 → K tgt L st μ) (kf : ¬ x = 0 → K (pc + 3) L st μ) : K pc L (.int x :: st) μ := by
  obtain ⟨p, e, s, m, below, meth, c, ⟨hx, hb, hr, hml, hown, hts, hX, hbl, hlocks, hgv⟩, hg, hk, hK⟩ := h
  refine (hK _ _ _ _).mpr (fun H locs ls hP hS hL => ?_)
  exact lv_if_eq hx hb hd ht (fun q => (hK _ _ _ _).mp (kt q) H locs ls hP hS hL) (fun q => (hK _ _ _ _).mp (kf q) H locs ls hP hS hL)
theorem zl_tabIn {l : Launch} {g : gG} {b Ls : Nat} {xs : Nat → Int32} {K : gKt} (h : gLW l g b Ls xs K) {pc : Nat} {L : List (Option Value)} {st : List Value} {μ : gM} {dflt lo hi : Int} {offs : Array Int} {len : Nat} {x : Int32} {off : Int} {tgt : Nat} (hd : decode cL_law pc = .ok (.tableswitch dflt lo hi offs, len)) (h1 : ¬ x.toInt < lo) (h2 : ¬ hi < x.toInt) (ho : offs[(x.toInt - lo).toNat]? = some off) (ht : (pc : Int) + off = (tgt : Int)) (k : K tgt L st μ) : K pc L (.int x :: st) μ := by
  obtain ⟨p, e, s, m, below, meth, c, ⟨hx, hb, hr, hml, hown, hts, hX, hbl, hlocks, hgv⟩, hg, hk, hK⟩ := h
  refine (hK _ _ _ _).mpr (fun H locs ls hP hS hL => ?_)
  exact lv_tableIn hx hb hd h1 h2 ho ht ((hK _ _ _ _).mp k H locs ls hP hS hL)
theorem zl_tabOut {l : Launch} {g : gG} {b Ls : Nat} {xs : Nat → Int32} {K : gKt} (h : gLW l g b Ls xs K) {pc : Nat} {L : List (Option Value)} {st : List Value} {μ : gM} {dflt lo hi : Int} {offs : Array Int} {len : Nat} {x : Int32} {tgt : Nat} (hd : decode cL_law pc = .ok (.tableswitch dflt lo hi offs, len)) (ho : x.toInt < lo ∨ hi < x.toInt) (ht : (pc : Int) + dflt = (tgt : Int)) (k : K tgt L st μ) : K pc L (.int x :: st) μ := by
  obtain ⟨p, e, s, m, below, meth, c, ⟨hx, hb, hr, hml, hown, hts, hX, hbl, hlocks, hgv⟩, hg, hk, hK⟩ := h
  refine (hK _ _ _ _).mpr (fun H locs ls hP hS hL => ?_)
  exact lv_tableOut hx hb hd ho ht ((hK _ _ _ _).mp k H locs ls hP hS hL)
theorem zl_sld {l : Launch} {g : gG} {b Ls : Nat} {xs : Nat → Int32} {K : gKt} (h : gLW l g b Ls xs K) {pc : Nat} {L : List (Option Value)} {st : List Value} {μ : gM} {i : Int32} {q : Nat} (hin : vp_in i Ls) (hi : i.toNatClampNeg = q) (hd : decode cL_law pc = .ok (.iaload, 1)) (k : K (pc + 1) L (.int (xs q) :: st) μ) : K pc L (.int i :: .ref b :: st) μ := by
  obtain ⟨p, e, s, m, below, meth, c, ⟨hx, hb, hr, hml, hown, hts, hX, hbl, hlocks, hgv⟩, hg, hk, hK⟩ := h
  refine (hK _ _ _ _).mpr (fun H locs ls hP hS hL => ?_)
  subst hi
  exact va_sld hx hb hX hbl (A := gA g.1) (by show ¬ g.1 ≤ b; omega) hS hin hd ((hK _ _ _ _).mp k H locs ls hP hS hL)
theorem zl_slen {l : Launch} {g : gG} {b Ls : Nat} {xs : Nat → Int32} {K : gKt} (h : gLW l g b Ls xs K) {pc : Nat} {L : List (Option Value)} {st : List Value} {μ : gM} {v : Int32} (hv : Int32.ofNat Ls = v) (hd : decode cL_law pc = .ok (.arraylength, 1)) (k : K (pc + 1) L (.int v :: st) μ) : K pc L (.ref b :: st) μ := by
  obtain ⟨p, e, s, m, below, meth, c, ⟨hx, hb, hr, hml, hown, hts, hX, hbl, hlocks, hgv⟩, hg, hk, hK⟩ := h
  refine (hK _ _ _ _).mpr (fun H locs ls hP hS hL => ?_)
  subst hv
  exact va_slen hx hb hX hbl (A := gA g.1) (by show ¬ g.1 ≤ b; omega) hS hd ((hK _ _ _ _).mp k H locs ls hP hS hL)
theorem zl_callV {l : Launch} {g : gG} {b Ls : Nat} {xs : Nat → Int32} {K : gKt} (h : gLW l g b Ls xs K) {pc : Nat} {L : List (Option Value)} {st : List Value} {μ : gM} {a c idx n nL1 rf rn N : Nat} {T : u_T} {y : MethodName} {c1 : ByteArray} {ret1 : Option FieldType} {x : Int32} {μ1 : gM} {As sk : List Value} (hka : gk a = (0, c)) (hc : vwCl[c]? = some (y.cls, T, N)) (hw : Cond.methodLink RL idx y ∈ gwL) (hin : Cond.instanceMethod y ∈ gwL) (hse : Cond.selects y.cls y y ∈ gwL) (hco : gCode y c1 nL1 ret1 n) (hR : rf + 1 ≤ 12 ∧ 8 + (nL1 + 11) + rn ≤ 458) (hM : gMet l g y c1 nL1 ret1 rf rn (.ref (g.1 + a) :: As) μ (some (.int x)) μ1) (hn : As.length = n) (hs : (st.map fun v => v.category).sum ≤ 8) (hd : decode cL_law pc = .ok (.invokevirtual idx, 3)) (hsk : sk = As.reverse ++ .ref (g.1 + a) :: st) (k : K (pc + 3) L (.int x :: st) μ1) : K pc L sk μ := by
  obtain ⟨p, e, s, m, below, meth, co, ⟨hx, hb, hr, hml, hown, hts, hX, hbl, hlocks, hgv⟩, hg, hkk, hK⟩ := h
  refine (hK _ _ _ _).mpr (fun H locs ls hP hS hL => ?_)
  subst hsk
  have hlt := gk_lt hka (by decide)
  have hrec : ∃ cellB : Cell, H[g.1 + a]? = some cellB ∧ cellB.vm.isStatics = false ∧ s.vm.findClass y.cls = some cellB.cls := by
    obtain ⟨rr, h1, cell, q1, q2, q3, q4⟩ := hP a _ (gWa g μ hlt (gEn_obj g _ hka))
    have e1 : rr = (y.cls, T, N) := Option.some.inj (h1.symm.trans hc)
    obtain ⟨hSl, hfc, -⟩ := hkk.1.1 c _ hc
    exact ⟨cell, q1, by rw [q3]; rfl, by rw [q2]; exact hfc⟩
  obtain ⟨q1, q2, q3, q4, q5⟩ := hco
  exact gCallL (va_runV (As := As) (rest := st) (b := g.1 + a) (Ts := gwL) (n := n) (C := y.cls) (bytes := c1) (maxL := nL1) (ret := ret1) ⟨hx, hb, hml, hown, fun w hw => hkk.2.use hw⟩ hM ⟨callB_of n (fun w hw => hkk.2.use hw) (gGood q1) rfl rfl rfl (hkk.2.use q2) (hkk.2.use hw) ⟨q3, q4, q5⟩ hR, hkk.2.use hin, hkk.2.use hse⟩ ⟨gPc_blind _ _ _, hrec, fun U hU hW => gPc_in hP hkk U hU hW⟩ rfl hn hL.1 rfl (lv_room hs) hd ⟨by decide, by decide⟩) hS (fun H1 locs1 hP1 hS1 => (hK _ _ _ _).mp k H1 locs1 ls hP1 hS1 hL)
theorem zl_end {l : Launch} {g : gG} {b Ls : Nat} {xs : Nat → Int32} {K : gKt} (h : gLW l g b Ls xs K) {pc : Nat} {L : List (Option Value)} {μ : gM} (hd : decode cL_law pc = .ok (.ireturn, 1)) : K pc L [.int 1] μ := by
  obtain ⟨p, e, s, m, below, meth, c, ⟨hx, hb, hr, hml, hown, hts, hX, hbl, hlocks, hgv⟩, hg, hk, hK⟩ := h
  refine (hK _ _ _ _).mpr (fun H locs ls hP hS hL => ?_)
  refine va_forget (fun q hq => by have := hS.2.2 q hq; unfold gA at this; omega) ?_
  refine W.widen (k := 600000) (n := 7302250) (by decide) (by decide) ?_
  exact lw_ret hx hb hr hlocks hd
