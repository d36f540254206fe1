theorem zv_218 : (Cond.code yJ0_length_8abf5 cJ0_length_8abf5 1 (some .int)) ∈ gwL := gwt_1 39 (by decide +kernel) rfl
theorem zv_228 : (Cond.code yJ0_charAt_5068e cJ0_charAt_5068e 2 (some .char)) ∈ gwL := gwt_1 49 (by decide +kernel) rfl
theorem zv_215 : (Cond.methodLink RX7 24 yJ0_length_8abf5) ∈ gwL := gwt_1 36 (by decide +kernel) rfl
theorem zv_216 : (Cond.instanceMethod yJ0_length_8abf5) ∈ gwL := gwt_1 37 (by decide +kernel) rfl
theorem zv_217 : (Cond.selects RJ0 yJ0_length_8abf5 yJ0_length_8abf5) ∈ gwL := gwt_1 38 (by decide +kernel) rfl
theorem zv_225 : (Cond.methodLink RX7 30 yJ0_charAt_5068e) ∈ gwL := gwt_1 46 (by decide +kernel) rfl
theorem zv_226 : (Cond.instanceMethod yJ0_charAt_5068e) ∈ gwL := gwt_1 47 (by decide +kernel) rfl
theorem zv_227 : (Cond.selects RJ0 yJ0_charAt_5068e yJ0_charAt_5068e) ∈ gwL := gwt_1 48 (by decide +kernel) rfl
theorem zv_264 : (Cond.fieldLink RX7 15 RX7 "own" "[I") ∈ gwL := gwt_1 85 (by decide +kernel) rfl
theorem zv_213 : (Cond.methodLink RX7 3 objectInit) ∈ gwL := gwt_1 34 (by decide +kernel) rfl
theorem zv_263 : (Cond.fieldLink RX7 9 RX7 "bytes" "[I") ∈ gwL := gwt_1 84 (by decide +kernel) rfl
theorem zv_276 : (Cond.fieldLink RX7 18 RX7 "place" "I") ∈ gwL := gwt_1 97 (by decide +kernel) rfl
def gText : String := "gate link group every delay keeps slots member of word share track by less at up down cut mend split heal"
def gCS (l : Launch) (g : gG) (cc : ByteArray) (own : String) (nL : Nat) (R : Room) (n0 mc ms n' : Nat) (e' : Nat → va_E) (q v : Nat) (K : gCt) : Prop :=
  ∃ (p : Program) (en : Env) (s : State) (m : MethodId) (args : Array Value) (below : List Frame) (meth : Method) (c : Code),
    (p.tables.exec = Jvm.exec ∧ c.code = cc ∧ c.maxLocals = nL ∧ s.vm.findClass own = some m.cls ∧ gKC g s ∧ meth.sig.returnType = none ∧ meth.locks = false ∧ meth.name = "<init>" ∧ s.heap.size = g.1 + n0 ∧
    ∀ (pc : Nat) (L : List (Option Value)) (st : List Value) (n : Nat) (e : Nat → va_E) (sl : Nat), K pc L st n e sl ↔ ∀ (H : Heap) (locs : List Loc) (ls : Array Slot) (ce : Nat), n0 + ce = n → va_P g.2.1 vwCl (gWc g n e) H → va_S (gA g.1) s.heap H locs → gL ls nL L → W p l en R s m args below meth c H locs ce sl (MQ below (gQk g n' e') args s mc ms (gA g.1)) (F0 m pc ls st)) ∧ gStr q v (gA g.1) s s.heap ∧ vk_R RX7 22 gText q s
theorem gCS.c {l : Launch} {g : gG} {cc : ByteArray} {own : String} {nL : Nat} {R : Room} {n0 mc ms n' : Nat} {e' : Nat → va_E} {q v : Nat} {K : gCt} (h : gCS l g cc own nL R n0 mc ms n' e' q v K) : gC l g cc own nL R n0 mc ms n' e' K := by
  obtain ⟨p, en, s, m, args, below, meth, c, h1, -⟩ := h
  exact ⟨p, en, s, m, args, below, meth, c, h1⟩
def gPkS (g : gG) (As : List Value) (n : Nat) (e : Nat → va_E) (q v : Nat) : Array Value → State → Prop := fun a U => gPk g As n e a U ∧ gStr q v (gA g.1) U U.heap ∧ vk_R RX7 22 gText q U
def gMkS (l : Launch) (g : gG) (y : MethodName) (cc : ByteArray) (nL rf rn mc ms : Nat) (As : List Value) (n : Nat) (e : Nat → va_E) (n' : Nat) (e' : Nat → va_E) (q v : Nat) : Prop :=
  Met l y [.code y cc nL none] (gRk rf mc ms rn) (gPkS g As n e q v) (gQk g n' e') mc ms (gA g.1)
theorem gPkS_blind (g : gG) (As : List Value) (n : Nat) (e : Nat → va_E) (q v : Nat) : FrameBlind (gPkS g As n e q v) := by
  intro a U gg mk hq
  exact ⟨gPk_blind g As n e a U gg mk hq.1, hq.2.1.moved (Vm.Alike.refl U.vm), vk_R.same (u := U) rfl hq.2.2⟩
theorem gMkS_of {l : Launch} {g : gG} {y : MethodName} {cc : ByteArray} {nL rf rn mc ms : Nat} {As : List Value} {n : Nat} {e : Nat → va_E} {n' : Nat} {e' : Nat → va_E} {q v : Nat} (L0 : List (Option Value)) (hy : plainName y.cls = true) (hname : y.name = "<init>")
    (hL0 : ∀ (i : Nat) (v : Value), L0[i]? = some (some v) → (i, v) ∈ lv_args 0 As) (hn : (lg_sl As).length ≤ nL)
    (body : ∀ K : gCt, gCS l g cc y.cls nL (gRk rf mc ms rn) n mc ms n' e' q v K → K 0 L0 [] n e 0) : gMkS l g y cc nL rf rn mc ms As n e n' e' q v := by
  refine Met.ofW (cc := cc) (maxL := nL) (ret := none) hy rfl ?_
  intro p en s m args below meth c s₁ B hml hv
  obtain ⟨⟨rfl, hsz, hP, hk⟩, hE, hZ⟩ := hv
  have hl := lv_entry As (n := nL) hn
  rw [lg_entry_eq]
  have hb := body (fun pc L st n1 e1 sl => ∀ (H : Heap) (locs : List Loc) (ls : Array Slot) (ce : Nat), n + ce = n1 → va_P g.2.1 vwCl (gWc g n1 e1) H → va_S (gA g.1) s.heap H locs → gL ls nL L → W p l en (gRk rf mc ms rn) s m As.toArray below meth c H locs ce sl (MQ below (gQk g n' e') As.toArray s mc ms (gA g.1)) (F0 m pc ls st))
    ⟨p, en, s, m, As.toArray, below, meth, c, ⟨B.exec, B.bytes, hml, findClass_of_methodNamed B.named, hk, B.returns, B.notSynchronized, ((name_of_methodNamed B.named B.method).1).trans hname, hsz, fun _ _ _ _ _ _ => Iff.rfl⟩, hE, hZ⟩
  exact hb s.heap [] _ 0 rfl hP va_S.rf ⟨hl.1, hl.2.1, fun i v h => hl.2.2 (i, v) (hL0 i v h)⟩
theorem zk_ldcS {l : Launch} {g : gG} {cc : ByteArray} {own : String} {nL : Nat} {R : Room} {n0 mc ms n' : Nat} {e' : Nat → va_E} {q v : Nat} {K : gCt} (h : gCS l g cc own nL R n0 mc ms n' e' q v K) {pc : Nat} {L : List (Option Value)} {st : List Value} {n : Nat} {e : Nat → va_E} {sl : Nat} (ho : own = RX7) (hd : decode cc pc = .ok (.ldc 22, 2)) (k : K (pc + 2) L (.ref q :: st) n e sl) : K pc L st n e sl := by
  obtain ⟨p, en, s, m, args, below, meth, co, ⟨hx, hb, hml, hown, hk, hr, hlk, hnm0, hsz, hK⟩, hE, hZ⟩ := h
  refine (hK _ _ _ _ _ _).mpr (fun H locs ls ce hce hP hS hL => ?_)
  subst ho
  exact va_ldcS hx hb hown hZ hd ((hK _ _ _ _ _ _).mp k H locs ls ce hce hP hS hL)
theorem zk_strV {l : Launch} {g : gG} {cc : ByteArray} {own : String} {nL : Nat} {R : Room} {n0 mc ms n' : Nat} {e' : Nat → va_E} {q v : Nat} {K : gCt} (h : gCS l g cc own nL R n0 mc ms n' e' q v K) {pc : Nat} {L : List (Option Value)} {st : List Value} {n : Nat} {e : Nat → va_E} {sl : Nat} {idx nL1 rf rn k1 : Nat} {y : MethodName} {c1 : ByteArray} {ret1 : Option FieldType} {r : Option Value} {As sk : List Value} (hy : y.cls = "java/lang/String") (hw : Cond.methodLink own idx y ∈ gwL) (hin : Cond.instanceMethod y ∈ gwL) (hse : Cond.selects y.cls y y ∈ gwL) (hco : gCode y c1 nL1 ret1 k1) (hR : rf + 1 ≤ R.frames ∧ 8 + (nL1 + 11) + rn ≤ R.locals) (hM : gMs l y c1 nL1 ret1 rf rn (.ref q :: As) q v g.1 r) (hn : As.length = k1) (hs : (st.map fun v => v.category).sum ≤ 8) (hrc : n - n0 ≤ R.cells) (hrs : sl ≤ R.slots) (hd : decode cc pc = .ok (.invokevirtual idx, 3)) (hsk : sk = As.reverse ++ .ref q :: st) (k : K (pc + 3) L (r.toList ++ st) n e sl) : K pc L sk n e sl := by
  obtain ⟨p, en, s, m, args, below, meth, co, ⟨hx, hb, hml, hown, hk, hr, hlk, hnm0, hsz, hK⟩, hE, hZ⟩ := h
  refine (hK _ _ _ _ _ _).mpr (fun H locs ls ce hce hP hS hL => ?_)
  exact gsV hx hb hml hown hk.1.2 hE hS hL.1 hy hw hin hse hco hR hM hn hs hd ⟨by omega, hrs⟩ hsk ((hK _ _ _ _ _ _).mp k H locs ls ce hce hP hS hL)
theorem zk_callS {l : Launch} {g : gG} {cc : ByteArray} {own : String} {nL : Nat} {R : Room} {n0 mc ms n' : Nat} {e' : Nat → va_E} {q v : Nat} {K : gCt} (h : gCS l g cc own nL R n0 mc ms n' e' q v K) {pc : Nat} {L : List (Option Value)} {st : List Value} {n : Nat} {e : Nat → va_E} {sl : Nat} {idx k1 nL1 rf rn mc1 ms1 b : Nat} {y : MethodName} {c1 : ByteArray} {host : String} {As sk : List Value} {n1 : Nat} {e1 : Nat → va_E} (hw : Cond.methodLinkNest own idx y host ∈ gwL) (hin : Cond.instanceMethod y ∈ gwL) (hco : gCode y c1 nL1 none k1) (hy : y.name = "<init>") (hR : rf + 1 ≤ R.frames ∧ 8 + (nL1 + 11) + rn ≤ R.locals) (hM : gMkS l g y c1 nL1 rf rn mc1 ms1 (.ref (g.1 + b) :: As) n e n1 e1 q v) (hn : As.length = k1) (hs : (st.map fun v => v.category).sum ≤ 8) (hrc : n - n0 + mc1 ≤ R.cells) (hrs : sl + ms1 ≤ R.slots) (hnn : n + mc1 = n1) (hd : decode cc pc = .ok (.invokespecial idx, 3)) (hsk : sk = As.reverse ++ .ref (g.1 + b) :: st) (k : K (pc + 3) L st n1 e1 (sl + ms1)) : K pc L sk n e sl := by
  obtain ⟨p, en, s, m, args, below, meth, co, ⟨hx, hb, hml, hown, hk, hr, hlk, hnm0, hsz, hK⟩, hE, hZ⟩ := h
  refine (hK _ _ _ _ _ _).mpr (fun H locs ls ce hce hP hS hL => ?_)
  subst hsk
  obtain ⟨q1, q2, q3, q4, q5⟩ := hco
  refine gW_sz hsz hce (gWc_low hsz hce hP hS) (fun hH => ?_)
  have hrun := va_runIN (As := As) (rest := st) (b := g.1 + b) (Ts := gwL) (n := k1) (bytes := c1) (maxL := nL1) ⟨hx, hb, hml, hown, fun w hw => hk.1.2.use hw⟩ hM ⟨va_cnB k1 (fun w hw => hk.1.2.use hw) (gGood q1) rfl rfl rfl (hk.1.2.use hw) (hk.1.2.use q2) ⟨q3, q4, q5⟩ hR, hy, hk.1.2.use hin⟩ ⟨gPkS_blind _ _ _ _ _ _, fun U hU hW => ⟨⟨rfl, by rw [hU]; exact hH, by rw [hU]; exact hP, ⟨va_K.moved hW.alike hk.1.1, hk.1.2.warm hW⟩, hk.2.warm hW⟩, by rw [hU]; exact (hE.kept hS.2.1).moved hW.alike, hZ.warm hW⟩⟩ (g := F0 m pc ls (As.reverse ++ .ref (g.1 + b) :: st)) (H := H) (locs := locs) (cells := ce) (slots := sl) (below := below) (e := en) (meth := meth) (args := args) rfl hn hL.1 rfl (lv_room hs) hd ⟨by omega, hrs⟩
  intro T hT X
  obtain ⟨v, st₀, t, T', Lo, h0, X', hLo, f1, f2, ⟨hv, hw1, hz, hq⟩, stp⟩ := hrun T hT X
  cases hv
  rw [h0] at hz hq
  obtain ⟨t2, a1, b1⟩ := (hK _ _ _ _ _ _).mp k T'.heap (locs ++ Lo) ls (ce + mc1) (by omega) (by rw [f1]; exact hw1)
    ⟨Nat.le_trans hS.1 (by rw [f1]; exact hz), fun q h1 h2 => by rw [f1, hq q (Nat.lt_of_lt_of_le h1 hS.1) h2]; exact hS.2.1 q h1 h2, fun q hq => by
      rcases List.mem_append.mp hq with h | h
      · exact hS.2.2 q h
      · exact hLo q h⟩ hL T' rfl X'
  exact ⟨t2, stp t2 a1, b1⟩
theorem grep0 (n q : Nat) : (List.replicate n (0 : Int32)).getD q 0 = 0 := by
  rw [List.getD_eq_getElem?_getD, List.getElem?_replicate]
  split <;> rfl
theorem zk_weak {l : Launch} {g : gG} {cc : ByteArray} {own : String} {nL : Nat} {R : Room} {n0 mc ms n' : Nat} {e' : Nat → va_E} {K : gCt} (h : gC l g cc own nL R n0 mc ms n' e' K) {pc : Nat} {L : List (Option Value)} {st : List Value} {n : Nat} {e : Nat → va_E} {sl : Nat} (bs : List Bool) (k : K pc (gMask bs L) st n e sl) : K pc L st n e sl := by
  obtain ⟨p, en, s, m, args, below, meth, co, hx, hb, hml, hown, hk, hr, hlk, hnm0, hsz, hK⟩ := h
  refine (hK _ _ _ _ _ _).mpr (fun H locs ls ce hce hP hS hL => ?_)
  exact (hK _ _ _ _ _ _).mp k H locs ls ce hce hP hS ⟨hL.1, hL.2.1, fun i v hi => hL.2.2 i v (gMask_at bs L i v hi)⟩
/-! the loop over the words' text: k words told, i letters of the one that is read, the row -/
def gRs (c : Int32) (t : Int32 × Int32 × List Int32) : Int32 × Int32 × List Int32 := if c = 32 then (t.1 + 1, 0, t.2.2) else if 21 ≤ t.1 then t else (t.1, t.2.1 + 1, t.2.2.set t.1.toNatClampNeg (t.2.2.getD t.1.toNatClampNeg 0 ||| ((c - 97 + 1) <<< ((5 * t.2.1) &&& 31))))
def gRt : Nat → Int32 × Int32 × List Int32
  | 0 => (0, 0, List.replicate 21 0)
  | j + 1 => gRs (gTx.getD j 0) (gRt j)
def gRok (t : Int32 × Int32 × List Int32) : Bool := !decide (t.1 < 0) && t.2.2.length == 21
theorem gRs_ok : ∀ j, j < 106 → gRok (gRt j) = true := by decide +kernel
theorem gRt_end : (gRt 105).2.2 = gOwnL := by decide +kernel
theorem gset_upd (l : List Int32) {k : Nat} (h : k < l.length) (x : Int32) : upd (fun j => l.getD j 0) k x = fun j => (l.set k x).getD j 0 := by
  funext j
  unfold upd
  by_cases hj : j = k
  · subst hj
    simp [List.getD, h]
  · have e : ¬ k = j := fun q => hj q.symm
    simp [List.getD, hj, List.getElem?_set, e]
def zM (g : gG) (e0 e : Nat → va_E) : Prop := ∀ k, k < 4 → k ≠ 1 → k ≠ 3 → e k = gFill g e0 1 4 k
set_option maxRecDepth 100000 in
set_option maxHeartbeats 4000000 in
theorem kX7_loop {l : Launch} {g : gG} {e0 : Nat → va_E} {q v : Nat} {K : gCt} (h : gCS l g cX7_init RX7 5 (gRk 4 2 1521 111) 2 2 1521 4 (gFill g e0 1 4) q v K) : ∀ (d j : Nat), j + d = 105 → ∀ (e : Nat → va_E), e 1 = .inr (7, [.ref (g.1 + 2), .ref (g.1 + 3), .int 0, .int 0, .int 0, .int 0, .int 0, .int 0, .int (-1)]) → e 3 = .inl (g.2.2 0, 21, .inl (fun q => (gRt j).2.2.getD q 0)) → zM g e0 e → K 32 [some (.ref (g.1 + 1)), some (.int (gRt j).1), some (.int (gRt j).2.1), some (.int (nI j)), none] [] 4 e 1521 := by
  intro d
  have hc := h.c
  induction d with
  | zero =>
    intro j hj e hv h3 hM
    obtain rfl : j = 105 := by omega
    refine zk_iload_n (pc := 32) hc dX7_init_32 rfl rfl ?_
    refine zk_ldcS (pc := 33) h rfl dX7_init_33 ?_
    refine zk_strV (pc := 35) (k1 := 0) (As := []) (rf := 1) (rn := 30) (r := some (.int 105)) h rfl zv_215 zv_216 zv_217 ⟨zv_218, zv_182, by decide +kernel, by decide +kernel, by decide +kernel⟩ ⟨by decide, by decide⟩ (ks_length l) rfl (Nat.le_of_ble_eq_true rfl) (by dsimp only [gRk]; omega) (by dsimp only [gRk]; omega) dX7_init_35 rfl ?_
    refine zk_icmp_ge (pc := 38) (x := nI 105) (y := 105) (tgt := 99) hc dX7_init_38 rfl (fun _ => ?_) (fun z => absurd (by decide) z)
    refine zk_ret (pc := 99) hc rfl rfl rfl (fun k hk => ?_) dX7_init_99
    by_cases k1 : k = 1
    · subst k1
      rw [hv]
      show _ = gE0 g 1
      exact gE0_obj gkc_1 rfl
    · by_cases k3 : k = 3
      · subst k3
        rw [h3, gRt_end]
        show _ = gE0 g 3
        unfold gE0
        rw [gEn_int g _ gkc_3]
        rfl
      · exact hM k hk k1 k3
  | succ d ih =>
    intro j hj e hv h3 hM
    have hj1 : j < 105 := by omega
    have hok := gRs_ok j (by omega)
    simp only [gRok, Bool.and_eq_true, Bool.not_eq_true', decide_eq_false_iff_not, beq_iff_eq] at hok
    obtain ⟨hpos, hlen⟩ := hok
    have hgo := ih (j + 1) (by omega)
    rw [gRt] at hgo
    refine zk_iload_n (pc := 32) hc dX7_init_32 rfl rfl ?_
    refine zk_ldcS (pc := 33) h rfl dX7_init_33 ?_
    refine zk_strV (pc := 35) (k1 := 0) (As := []) (rf := 1) (rn := 30) (r := some (.int 105)) h rfl zv_215 zv_216 zv_217 ⟨zv_218, zv_182, by decide +kernel, by decide +kernel, by decide +kernel⟩ ⟨by decide, by decide⟩ (ks_length l) rfl (Nat.le_of_ble_eq_true rfl) (by dsimp only [gRk]; omega) (by dsimp only [gRk]; omega) dX7_init_35 rfl ?_
    refine zk_icmp_ge (pc := 38) (x := nI j) (y := 105) (tgt := 99) hc dX7_init_38 rfl (fun z => absurd z (nI_ge (a := j) (b := 105) hj1 (by decide))) (fun _ => ?_)
    refine zk_ldcS (pc := 41) h rfl dX7_init_41 ?_
    refine zk_iload_n (pc := 43) hc dX7_init_43 rfl rfl ?_
    refine zk_strV (pc := 44) (k1 := 1) (As := [.int (nI j)]) (rf := 3) (rn := 90) (r := some (.int (gTx.getD j 0))) h rfl zv_225 zv_226 zv_227 ⟨zv_228, zv_182, by decide +kernel, by decide +kernel, by decide +kernel⟩ ⟨by decide, by decide⟩ (ks_charAt l hj1) rfl (Nat.le_of_ble_eq_true rfl) (by dsimp only [gRk]; omega) (by dsimp only [gRk]; omega) dX7_init_44 rfl ?_
    refine zk_istore (pc := 47) (x := gTx.getD j 0) hc dX7_init_47 (by decide) rfl ?_
    generalize gTx.getD j 0 = ch at hgo ⊢
    generalize gRt j = tt at hgo hpos hlen h3 ⊢
    obtain ⟨kk, ii, ll⟩ := tt
    dsimp only at hgo hpos hlen h3 ⊢
    have tail : ∀ (k2 i2 : Int32) (l2 : List Int32), gRs ch (kk, ii, ll) = (k2, i2, l2) → ∀ e2 : Nat → va_E, e2 1 = .inr (7, [.ref (g.1 + 2), .ref (g.1 + 3), .int 0, .int 0, .int 0, .int 0, .int 0, .int 0, .int (-1)]) → e2 3 = .inl (g.2.2 0, 21, .inl (fun q => l2.getD q 0)) → zM g e0 e2 → K 93 [some (.ref (g.1 + 1)), some (.int k2), some (.int i2), some (.int (nI j)), some (.int ch)] [] 4 e2 1521 := by
      intro k2 i2 l2 hst e2 hv2 h32 hM2
      refine zk_iinc (pc := 93) (v := nI (j + 1)) hc dX7_init_93 rfl (by rw [nI_succ]; rfl) (by decide) rfl ?_
      refine zk_goto (pc := 96) (tgt := 32) hc dX7_init_96 rfl ?_
      rw [hst] at hgo
      exact zk_weak hc [true, true, true, true, false] (hgo e2 hv2 h32 hM2)
    refine zk_iload (pc := 49) hc dX7_init_49 rfl ?_
    refine zk_bipush (pc := 51) (v := 32) hc dX7_init_51 (by decide) ?_
    refine zk_icmp_ne (pc := 53) (tgt := 64) hc dX7_init_53 rfl (fun hne => ?_) (fun heq => ?_)
    · refine zk_iload_n (pc := 64) hc dX7_init_64 rfl rfl ?_
      refine zk_bipush (pc := 65) (v := 21) hc dX7_init_65 (by decide) ?_
      refine zk_icmp_ge (pc := 67) (tgt := 93) hc dX7_init_67 rfl (fun hge => ?_) (fun hlt => ?_)
      · exact tail kk ii ll (by simp [gRs, hne, hge]) e hv h3 hM
      · have hin : gIn kk 21 = true := by
          have h5 : ¬ 21 ≤ kk.toNatClampNeg := by
            intro z
            apply hlt
            obtain ⟨jj, hjj, rfl⟩ := nI_of hpos
            rw [nI_clamp hjj] at z
            exact nI_le (a := 21) (b := jj) z hjj
          simp [gIn, hpos, h5]
        have hkl : kk.toNatClampNeg < ll.length := by
          rw [hlen]
          have h6 := gIn_vp hin
          exact Nat.not_le.mp fun z => h6 (Or.inr z)
        refine zk_aload_n (pc := 70) hc dX7_init_70 rfl rfl ?_
        refine zk_get (pc := 71) (a := 1) (c := 7) (j := 1) (v := .ref (g.1 + 3)) (fs := [.ref (g.1 + 2), .ref (g.1 + 3), .int 0, .int 0, .int 0, .int 0, .int 0, .int 0, .int (-1)]) hc (by omega) hv rfl (by decide) rfl zu_X7 zv_264 rfl dX7_init_71 ?_
        refine zk_iload_n (pc := 74) hc dX7_init_74 rfl rfl ?_
        refine zk_dup2 (pc := 75) hc dX7_init_75 rfl rfl ?_
        refine zk_iald (pc := 76) (a := 3) hc (by omega) h3 hin rfl dX7_init_76 ?_
        refine zk_iload (pc := 77) hc dX7_init_77 rfl ?_
        refine zk_bipush (pc := 79) (v := 97) hc dX7_init_79 (by decide) ?_
        refine zk_isub (pc := 81) hc dX7_init_81 ?_
        refine zk_iconst (pc := 82) (v := 1) hc dX7_init_82 (by decide) ?_
        refine zk_iadd (pc := 83) hc dX7_init_83 ?_
        refine zk_iconst (pc := 84) (v := 5) hc dX7_init_84 (by decide) ?_
        refine zk_iload_n (pc := 85) hc dX7_init_85 rfl rfl ?_
        refine zk_imul (pc := 86) hc dX7_init_86 ?_
        refine zk_ishl (pc := 87) hc dX7_init_87 ?_
        refine zk_ior (pc := 88) hc dX7_init_88 ?_
        refine zk_iast (pc := 89) (a := 3) hc (by omega) h3 hin rfl dX7_init_89 ?_
        refine zk_iinc (pc := 90) (v := ii + 1) hc dX7_init_90 rfl (by rfl) (by decide) rfl ?_
        refine tail kk (ii + 1) _ (by simp only [gRs]; rw [if_neg hne, if_neg hlt]) _ (zup_ne (by omega) hv) (zup_eq ?_) (fun k k0 k1 k3 => (zup_ne k3 rfl).trans (hM k k0 k1 k3))
        rw [← gset_upd ll hkl]
    · refine zk_iinc (pc := 56) (v := kk + 1) hc dX7_init_56 rfl (by rfl) (by decide) rfl ?_
      refine zk_iconst (pc := 59) (v := 0) hc dX7_init_59 (by decide) ?_
      refine zk_istore_n (pc := 60) hc dX7_init_60 rfl (by decide) rfl ?_
      refine zk_goto (pc := 61) (tgt := 93) hc dX7_init_61 rfl ?_
      exact tail (kk + 1) 0 ll (by simp [gRs, heq]) e hv h3 hM

set_option maxRecDepth 100000 in
set_option maxHeartbeats 4000000 in
theorem kX7_init {l : Launch} {g : gG} {e : Nat → va_E} {q v : Nat} (hv : e 1 = .inr (7, [.null, .null, .int 0, .int 0, .int 0, .int 0, .int 0, .int 0, .int 0])) : gMkS l g yX7_init cX7_init 5 4 111 2 1521 [.ref (g.1 + 1)] 2 e 4 (gFill g e 1 4) q v := by
  refine gMkS_of (gIni [.ref (g.1 + 1)] ++ List.replicate 4 none) (by decide) rfl (gIni_ok _ _) (Nat.le_of_ble_eq_true rfl) (fun K h => ?_)
  show K 0 [some (.ref (g.1 + 1)), none, none, none, none] [] 2 e 0
  have hc := h.c
  refine zk_aload_n (pc := 0) hc dX7_init_0 rfl rfl ?_
  refine zk_obj (pc := 1) hc zv_213 zv_206 zv_207 (by decide) (Nat.le_of_ble_eq_true rfl) dX7_init_1 ?_
  refine zk_aload_n (pc := 4) hc dX7_init_4 rfl rfl ?_
  refine zk_sipush (pc := 5) (v := 1500) hc dX7_init_5 (by decide) ?_
  refine zk_new_int (pc := 8) (N := 1500) hc (by decide) (by decide) (by decide) (by dsimp only [gRk]; omega) (by dsimp only [gRk]; omega) dX7_init_8 ?_
  have hv := zup_ne (n := 2) (y := .inl (g.2.2 0, 1500, .inl (fun _ => 0))) (by omega) hv
  refine zk_putF (pc := 10) (a := 1) (c := 7) (j := 0) (fs := [.null, .null, .int 0, .int 0, .int 0, .int 0, .int 0, .int 0, .int 0]) hc (by omega) hv rfl (by decide) rfl rfl zu_X7 zv_263 tyX7_ok nmX7 rfl rfl rfl (Nat.le_of_ble_eq_true rfl) dX7_init_10 ?_
  have hv := zup_put (y := .inr (7, [.ref (g.1 + 2), .null, .int 0, .int 0, .int 0, .int 0, .int 0, .int 0, .int 0])) hv
  refine zk_aload_n (pc := 13) hc dX7_init_13 rfl rfl ?_
  refine zk_bipush (pc := 14) (v := 21) hc dX7_init_14 (by decide) ?_
  refine zk_new_int (pc := 16) (N := 21) hc (by decide) (by decide) (by decide) (by dsimp only [gRk]; omega) (by dsimp only [gRk]; omega) dX7_init_16 ?_
  have hv := zup_ne (n := 3) (y := .inl (g.2.2 0, 21, .inl (fun _ => 0))) (by omega) hv
  refine zk_putF (pc := 18) (a := 1) (c := 7) (j := 1) (fs := [.ref (g.1 + 2), .null, .int 0, .int 0, .int 0, .int 0, .int 0, .int 0, .int 0]) hc (by omega) hv rfl (by decide) rfl rfl zu_X7 zv_264 tyX7_ok nmX7 rfl rfl rfl (Nat.le_of_ble_eq_true rfl) dX7_init_18 ?_
  have hv := zup_put (y := .inr (7, [.ref (g.1 + 2), .ref (g.1 + 3), .int 0, .int 0, .int 0, .int 0, .int 0, .int 0, .int 0])) hv
  refine zk_aload_n (pc := 21) hc dX7_init_21 rfl rfl ?_
  refine zk_iconst (pc := 22) (v := -1) hc dX7_init_22 (by decide) ?_
  refine zk_put (pc := 23) (a := 1) (c := 7) (j := 8) (fs := [.ref (g.1 + 2), .ref (g.1 + 3), .int 0, .int 0, .int 0, .int 0, .int 0, .int 0, .int 0]) hc (by omega) hv rfl (by decide) rfl zu_X7 zv_276 tyX7_ok nmX7 rfl rfl rfl (Nat.le_of_ble_eq_true rfl) dX7_init_23 ?_
  refine zk_iconst (pc := 26) (v := 0) hc dX7_init_26 (by decide) ?_
  refine zk_istore_n (pc := 27) hc dX7_init_27 rfl (by decide) rfl ?_
  refine zk_iconst (pc := 28) (v := 0) hc dX7_init_28 (by decide) ?_
  refine zk_istore_n (pc := 29) hc dX7_init_29 rfl (by decide) rfl ?_
  refine zk_iconst (pc := 30) (v := 0) hc dX7_init_30 (by decide) ?_
  refine zk_istore_n (pc := 31) hc dX7_init_31 rfl (by decide) rfl ?_
  refine kX7_loop h 105 0 rfl _ (zup_eq rfl) (zup_ne (by omega) (zup_ne (by omega) (zup_eq ?_))) (fun k k0 k1 k3 => ?_)
  · have e1 : (fun _ : Nat => (0 : Int32)) = fun q => (gRt 0).2.2.getD q 0 := by
      funext q
      show (0 : Int32) = (List.replicate 21 (0 : Int32)).getD q 0
      exact (grep0 21 q).symm
    rw [e1]
  · have e2 : k = 0 ∨ k = 2 := by omega
    rcases e2 with rfl | rfl
    · rfl
    · show (.inl (g.2.2 0, 1500, .inl (fun _ => 0)) : va_E) = gE0 g 2
      exact gE0_arr gkc_2 rfl

