/-! constructors: the heap grows cell by cell; e k is what cell k holds -/
def gWc (g : gG) (n : Nat) (e : Nat → va_E) : va_W := (List.range n).map fun k => (g.1 + k, e k)
theorem gWc_at (g : gG) {n : Nat} (e : Nat → va_E) {a : Nat} (h : a < n) : (gWc g n e)[a]? = some (g.1 + a, e a) := by simp [gWc, h]
theorem gWc_no (g : gG) {n : Nat} (e : Nat → va_E) {a : Nat} (h : ¬ a < n) : (gWc g n e)[a]? = none := by simp [gWc]; omega
theorem gWc_set (g : gG) {n : Nat} (e : Nat → va_E) {a : Nat} (x : va_E) (h : a < n) : (gWc g n e).set a (g.1 + a, x) = gWc g n (va_up e a x) := by
  apply List.ext_getElem?
  intro i
  rw [List.getElem?_set]
  by_cases hi : a = i
  · subst hi
    have h1 : a < (gWc g n e).length := by simp [gWc, h]
    rw [if_pos rfl, if_pos h1, gWc_at g _ h]
    simp [va_up]
  · rw [if_neg hi]
    have e1 : ¬ i = a := fun q => hi q.symm
    by_cases h1 : i < n
    · rw [gWc_at g _ h1, gWc_at g _ h1]
      simp [va_up, e1]
    · rw [gWc_no g _ h1, gWc_no g _ h1]
theorem gWc_push (g : gG) (n : Nat) (e : Nat → va_E) (x : va_E) : gWc g n e ++ [(g.1 + n, x)] = gWc g (n + 1) (va_up e n x) := by
  unfold gWc
  rw [List.range_succ, List.map_append]
  congr 1
  · apply List.map_congr_left
    intro k hk
    have h1 : ¬ k = n := Nat.ne_of_lt (List.mem_range.mp hk)
    simp [va_up, h1]
  · simp [va_up]
theorem gWc_D (g : gG) (n : Nat) (e : Nat → va_E) : va_D (gA g.1) (gWc g n e) := by
  refine ⟨fun i j p q hp hq hpq => ?_, fun k q hq => ?_⟩
  · by_cases h1 : i < n
    · by_cases h2 : j < n
      · rw [gWc_at g _ h1] at hp
        rw [gWc_at g _ h2] at hq
        cases hp; cases hq
        exact Nat.add_left_cancel hpq
      · rw [gWc_no g _ h2] at hq; cases hq
    · rw [gWc_no g _ h1] at hp; cases hp
  · by_cases h1 : k < n
    · rw [gWc_at g _ h1] at hq
      cases hq
      exact Nat.le_add_right _ _
    · rw [gWc_no g _ h1] at hq; cases hq
theorem gWc_cong (g : gG) {n : Nat} {e f : Nat → va_E} (h : ∀ k, k < n → e k = f k) : gWc g n e = gWc g n f := by
  unfold gWc
  apply List.map_congr_left
  intro k hk
  rw [h k (List.mem_range.mp hk)]
def gAC (U : State) : Prop := ((Cond.arrayClass .int).before #[] U = true ∧ (Cond.arrayClass .byte).before #[] U = true ∧ (Cond.arrayClass .boolean).before #[] U = true) ∧ va_AO RX9 U
theorem gAC.warm {s U : State} (h : gAC s) (hW : s.WarmedH U.vm) : gAC U := ⟨⟨word_at hW (Or.inr ⟨_, rfl⟩) h.1.1, word_at hW (Or.inr ⟨_, rfl⟩) h.1.2.1, word_at hW (Or.inr ⟨_, rfl⟩) h.1.2.2⟩, va_AO.moved hW.alike h.2⟩
def gKC (g : gG) (U : State) : Prop := gK g U ∧ gAC U
def gPk (g : gG) (As : List Value) (n : Nat) (e : Nat → va_E) : Array Value → State → Prop := fun v U => v = As.toArray ∧ U.heap.size = g.1 + n ∧ va_P g.2.1 vwCl (gWc g n e) U.heap ∧ gKC g U
def gQk (g : gG) (n' : Nat) (e' : Nat → va_E) : Array Value → State → Outcome → State → Prop := fun _ st oc t => oc = .returned none ∧ va_P g.2.1 vwCl (gWc g n' e') t.heap ∧ va_F (gA g.1) st t
def gRk (f c s n : Nat) : Room := { frames := f, cells := c, slots := s, locals := n }
def gMk (l : Launch) (g : gG) (y : MethodName) (cc : ByteArray) (nL rf rn mc ms : Nat) (As : List Value) (n : Nat) (e : Nat → va_E) (n' : Nat) (e' : Nat → va_E) : Prop :=
  Met l y [.code y cc nL none] (gRk rf mc ms rn) (gPk g As n e) (gQk g n' e') mc ms (gA g.1)
abbrev gCt : Type := Nat → List (Option Value) → List Value → Nat → (Nat → va_E) → Nat → Prop
def gC (l : Launch) (g : gG) (cc : ByteArray) (own : String) (nL : Nat) (R : Room) (n0 mc ms n' : Nat) (e' : Nat → va_E) (K : gCt) : Prop :=
  ∃ (p : Program) (en : Env) (s : State) (m : MethodId) (args : Array Value) (below : List Frame) (meth : Method) (c : Code),
    p.tables.exec = Jvm.exec ∧ c.code = cc ∧ c.maxLocals = nL ∧ s.vm.findClass own = some m.cls ∧ gKC g s ∧ meth.sig.returnType = none ∧ meth.locks = false ∧ meth.name = "<init>" ∧ s.heap.size = g.1 + n0 ∧
    ∀ (pc : Nat) (L : List (Option Value)) (st : List Value) (n : Nat) (e : Nat → va_E) (sl : Nat), K pc L st n e sl ↔ ∀ (H : Heap) (locs : List Loc) (ls : Array Slot) (ce : Nat), n0 + ce = n → va_P g.2.1 vwCl (gWc g n e) H → va_S (gA g.1) s.heap H locs → gL ls nL L → W p l en R s m args below meth c H locs ce sl (MQ below (gQk g n' e') args s mc ms (gA g.1)) (F0 m pc ls st)
theorem gMk_of {l : Launch} {g : gG} {y : MethodName} {cc : ByteArray} {nL rf rn mc ms : Nat} {As : List Value} {n : Nat} {e : Nat → va_E} {n' : Nat} {e' : Nat → va_E} (L0 : List (Option Value)) (hy : plainName y.cls = true) (hname : y.name = "<init>")
    (hL0 : ∀ (i : Nat) (v : Value), L0[i]? = some (some v) → (i, v) ∈ lv_args 0 As) (hn : (lg_sl As).length ≤ nL)
    (body : ∀ K : gCt, gC l g cc y.cls nL (gRk rf mc ms rn) n mc ms n' e' K → K 0 L0 [] n e 0) : gMk l g y cc nL rf rn mc ms As n e n' e' := by
  refine Met.ofW (cc := cc) (maxL := nL) (ret := none) hy rfl ?_
  intro p en s m args below meth c s₁ B hml hv
  obtain ⟨rfl, hsz, hP, hk⟩ := hv
  have hl := lv_entry As (n := nL) hn
  rw [lg_entry_eq]
  have hb := body (fun pc L st n1 e1 sl => ∀ (H : Heap) (locs : List Loc) (ls : Array Slot) (ce : Nat), n + ce = n1 → va_P g.2.1 vwCl (gWc g n1 e1) H → va_S (gA g.1) s.heap H locs → gL ls nL L → W p l en (gRk rf mc ms rn) s m As.toArray below meth c H locs ce sl (MQ below (gQk g n' e') As.toArray s mc ms (gA g.1)) (F0 m pc ls st))
    ⟨p, en, s, m, As.toArray, below, meth, c, B.exec, B.bytes, hml, findClass_of_methodNamed B.named, hk, B.returns, B.notSynchronized, ((name_of_methodNamed B.named B.method).1).trans hname, hsz, fun _ _ _ _ _ _ => Iff.rfl⟩
  exact hb s.heap [] _ 0 rfl hP va_S.rf ⟨hl.1, hl.2.1, fun i v h => hl.2.2 (i, v) (hL0 i v h)⟩
theorem gW_sz {p : Program} {l : Launch} {en : Env} {R : Room} {s : State} {m : MethodId} {args : Array Value} {below : List Frame} {meth : Method} {c : Code} {H : Heap} {locs : List Loc} {ce sl : Nat} {Q : State → Prop} {fr : JFrame} {B n0 n : Nat} (hs : s.heap.size = B + n0) (hc : n0 + ce = n) (hlow : B + n ≤ H.size) (k : H.size = B + n → W p l en R s m args below meth c H locs ce sl Q fr) : W p l en R s m args below meth c H locs ce sl Q fr := by
  intro T hT X
  have h1 := X.heapSize
  rw [hT] at h1
  exact k (by omega) T hT X
theorem gWc_low {g : gG} {n n0 ce : Nat} {e : Nat → va_E} {H : Heap} {s : State} {locs : List Loc} (hs : s.heap.size = g.1 + n0) (hc : n0 + ce = n) (hP : va_P g.2.1 vwCl (gWc g n e) H) (hS : va_S (gA g.1) s.heap H locs) : g.1 + n ≤ H.size := by
  rcases Nat.eq_zero_or_pos ce with h | h
  · have := hS.1
    omega
  · have h2 : n - 1 < n := by omega
    have h3 : g.1 + (n - 1) < H.size := (hP (n - 1) _ (gWc_at g e h2)).lt
    omega
theorem zk_iconst {l : Launch} {g : gG} {cc : ByteArray} {own : String} {nL : Nat} {R : Room} {n0 mc ms n' : Nat} {e' : Nat → va_E} {K : gCt} (h : gC l g cc own nL R n0 mc ms n' e' K) {pc : Nat} {L : List (Option Value)} {st : List Value} {n : Nat} {e : Nat → va_E} {sl : Nat} {i : Int} {v : Int32} (hd : decode cc pc = .ok (.iconst i, 1)) (hv : Int32.ofInt i = v) (k : K (pc + 1) L (.int v :: st) n e sl) : K pc L (st) n e sl := by
  obtain ⟨p, en, s, m, args, below, meth, co, hx, hb, hml, hown, hk, hr, hlk, hnm0, hsz, hK⟩ := h
  refine (hK _ _ _ _ _ _).mpr (fun H locs ls ce hce hP hS hL => ?_)
  exact lv_iconst hx hb hd hv ((hK _ _ _ _ _ _).mp k H locs ls ce hce hP hS hL)
theorem zk_bipush {l : Launch} {g : gG} {cc : ByteArray} {own : String} {nL : Nat} {R : Room} {n0 mc ms n' : Nat} {e' : Nat → va_E} {K : gCt} (h : gC l g cc own nL R n0 mc ms n' e' K) {pc : Nat} {L : List (Option Value)} {st : List Value} {n : Nat} {e : Nat → va_E} {sl : Nat} {i : Int} {v : Int32} (hd : decode cc pc = .ok (.bipush i, 2)) (hv : (Int8.ofInt i).toInt32 = v) (k : K (pc + 2) L (.int v :: st) n e sl) : K pc L (st) n e sl := by
  obtain ⟨p, en, s, m, args, below, meth, co, hx, hb, hml, hown, hk, hr, hlk, hnm0, hsz, hK⟩ := h
  refine (hK _ _ _ _ _ _).mpr (fun H locs ls ce hce hP hS hL => ?_)
  exact lv_bipush hx hb hd hv ((hK _ _ _ _ _ _).mp k H locs ls ce hce hP hS hL)
theorem zk_sipush {l : Launch} {g : gG} {cc : ByteArray} {own : String} {nL : Nat} {R : Room} {n0 mc ms n' : Nat} {e' : Nat → va_E} {K : gCt} (h : gC l g cc own nL R n0 mc ms n' e' K) {pc : Nat} {L : List (Option Value)} {st : List Value} {n : Nat} {e : Nat → va_E} {sl : Nat} {i : Int} {v : Int32} (hd : decode cc pc = .ok (.sipush i, 3)) (hv : (Int16.ofInt i).toInt32 = v) (k : K (pc + 3) L (.int v :: st) n e sl) : K pc L (st) n e sl := by
  obtain ⟨p, en, s, m, args, below, meth, co, hx, hb, hml, hown, hk, hr, hlk, hnm0, hsz, hK⟩ := h
  refine (hK _ _ _ _ _ _).mpr (fun H locs ls ce hce hP hS hL => ?_)
  exact lv_sipush hx hb hd hv ((hK _ _ _ _ _ _).mp k H locs ls ce hce hP hS hL)
theorem zk_iadd {l : Launch} {g : gG} {cc : ByteArray} {own : String} {nL : Nat} {R : Room} {n0 mc ms n' : Nat} {e' : Nat → va_E} {K : gCt} (h : gC l g cc own nL R n0 mc ms n' e' K) {pc : Nat} {L : List (Option Value)} {st : List Value} {n : Nat} {e : Nat → va_E} {sl : Nat} {x y : Int32} (hd : decode cc pc = .ok (.iadd, 1))  (k : K (pc + 1) L (.int (x + y) :: st) n e sl) : K pc L (.int y :: .int x :: st) n e sl := by
  obtain ⟨p, en, s, m, args, below, meth, co, hx, hb, hml, hown, hk, hr, hlk, hnm0, hsz, hK⟩ := h
  refine (hK _ _ _ _ _ _).mpr (fun H locs ls ce hce hP hS hL => ?_)
  exact lv_iadd hx hb hd  ((hK _ _ _ _ _ _).mp k H locs ls ce hce hP hS hL)
theorem zk_isub {l : Launch} {g : gG} {cc : ByteArray} {own : String} {nL : Nat} {R : Room} {n0 mc ms n' : Nat} {e' : Nat → va_E} {K : gCt} (h : gC l g cc own nL R n0 mc ms n' e' K) {pc : Nat} {L : List (Option Value)} {st : List Value} {n : Nat} {e : Nat → va_E} {sl : Nat} {x y : Int32} (hd : decode cc pc = .ok (.isub, 1))  (k : K (pc + 1) L (.int (x - y) :: st) n e sl) : K pc L (.int y :: .int x :: st) n e sl := by
  obtain ⟨p, en, s, m, args, below, meth, co, hx, hb, hml, hown, hk, hr, hlk, hnm0, hsz, hK⟩ := h
  refine (hK _ _ _ _ _ _).mpr (fun H locs ls ce hce hP hS hL => ?_)
  exact lv_isub hx hb hd  ((hK _ _ _ _ _ _).mp k H locs ls ce hce hP hS hL)
theorem zk_imul {l : Launch} {g : gG} {cc : ByteArray} {own : String} {nL : Nat} {R : Room} {n0 mc ms n' : Nat} {e' : Nat → va_E} {K : gCt} (h : gC l g cc own nL R n0 mc ms n' e' K) {pc : Nat} {L : List (Option Value)} {st : List Value} {n : Nat} {e : Nat → va_E} {sl : Nat} {x y : Int32} (hd : decode cc pc = .ok (.imul, 1))  (k : K (pc + 1) L (.int (x * y) :: st) n e sl) : K pc L (.int y :: .int x :: st) n e sl := by
  obtain ⟨p, en, s, m, args, below, meth, co, hx, hb, hml, hown, hk, hr, hlk, hnm0, hsz, hK⟩ := h
  refine (hK _ _ _ _ _ _).mpr (fun H locs ls ce hce hP hS hL => ?_)
  exact lv_imul hx hb hd  ((hK _ _ _ _ _ _).mp k H locs ls ce hce hP hS hL)
theorem zk_ior {l : Launch} {g : gG} {cc : ByteArray} {own : String} {nL : Nat} {R : Room} {n0 mc ms n' : Nat} {e' : Nat → va_E} {K : gCt} (h : gC l g cc own nL R n0 mc ms n' e' K) {pc : Nat} {L : List (Option Value)} {st : List Value} {n : Nat} {e : Nat → va_E} {sl : Nat} {x y : Int32} (hd : decode cc pc = .ok (.ior, 1))  (k : K (pc + 1) L (.int (x ||| y) :: st) n e sl) : K pc L (.int y :: .int x :: st) n e sl := by
  obtain ⟨p, en, s, m, args, below, meth, co, hx, hb, hml, hown, hk, hr, hlk, hnm0, hsz, hK⟩ := h
  refine (hK _ _ _ _ _ _).mpr (fun H locs ls ce hce hP hS hL => ?_)
  exact lv_ior hx hb hd  ((hK _ _ _ _ _ _).mp k H locs ls ce hce hP hS hL)
theorem zk_ishl {l : Launch} {g : gG} {cc : ByteArray} {own : String} {nL : Nat} {R : Room} {n0 mc ms n' : Nat} {e' : Nat → va_E} {K : gCt} (h : gC l g cc own nL R n0 mc ms n' e' K) {pc : Nat} {L : List (Option Value)} {st : List Value} {n : Nat} {e : Nat → va_E} {sl : Nat} {x y : Int32} (hd : decode cc pc = .ok (.ishl, 1))  (k : K (pc + 1) L (.int (x <<< (y &&& 31)) :: st) n e sl) : K pc L (.int y :: .int x :: st) n e sl := by
  obtain ⟨p, en, s, m, args, below, meth, co, hx, hb, hml, hown, hk, hr, hlk, hnm0, hsz, hK⟩ := h
  refine (hK _ _ _ _ _ _).mpr (fun H locs ls ce hce hP hS hL => ?_)
  exact lv_ishl hx hb hd  ((hK _ _ _ _ _ _).mp k H locs ls ce hce hP hS hL)
theorem zk_dup {l : Launch} {g : gG} {cc : ByteArray} {own : String} {nL : Nat} {R : Room} {n0 mc ms n' : Nat} {e' : Nat → va_E} {K : gCt} (h : gC l g cc own nL R n0 mc ms n' e' K) {pc : Nat} {L : List (Option Value)} {st : List Value} {n : Nat} {e : Nat → va_E} {sl : Nat} {va : Value} (hd : decode cc pc = .ok (.dup, 1)) (hc : va.category = 1) (k : K (pc + 1) L (va :: va :: st) n e sl) : K pc L (va :: st) n e sl := by
  obtain ⟨p, en, s, m, args, below, meth, co, hx, hb, hml, hown, hk, hr, hlk, hnm0, hsz, hK⟩ := h
  refine (hK _ _ _ _ _ _).mpr (fun H locs ls ce hce hP hS hL => ?_)
  exact lv_dup hx hb hd hc ((hK _ _ _ _ _ _).mp k H locs ls ce hce hP hS hL)
theorem zk_dup2 {l : Launch} {g : gG} {cc : ByteArray} {own : String} {nL : Nat} {R : Room} {n0 mc ms n' : Nat} {e' : Nat → va_E} {K : gCt} (h : gC l g cc own nL R n0 mc ms n' e' K) {pc : Nat} {L : List (Option Value)} {st : List Value} {n : Nat} {e : Nat → va_E} {sl : Nat} {va vb : Value} (hd : decode cc pc = .ok (.dup2, 1)) (hc : va.category = 1) (hc2 : vb.category = 1) (k : K (pc + 1) L (va :: vb :: va :: vb :: st) n e sl) : K pc L (va :: vb :: st) n e sl := by
  obtain ⟨p, en, s, m, args, below, meth, co, hx, hb, hml, hown, hk, hr, hlk, hnm0, hsz, hK⟩ := h
  refine (hK _ _ _ _ _ _).mpr (fun H locs ls ce hce hP hS hL => ?_)
  exact lv_dup2_11 hx hb hd hc hc2 ((hK _ _ _ _ _ _).mp k H locs ls ce hce hP hS hL)
theorem zk_iload_n {l : Launch} {g : gG} {cc : ByteArray} {own : String} {nL : Nat} {R : Room} {n0 mc ms n' : Nat} {e' : Nat → va_E} {K : gCt} (h : gC l g cc own nL R n0 mc ms n' e' K) {pc : Nat} {L : List (Option Value)} {st : List Value} {n : Nat} {e : Nat → va_E} {sl : Nat} {q : Fin 4} {i : Nat} {x : Int32} (hd : decode cc pc = .ok (.iload_n q, 1)) (hi : (q : Nat) = i) (hl : L[i]? = some (some (.int x))) (k : K (pc + 1) L (.int x :: st) n e sl) : K pc L st n e sl := by
  obtain ⟨p, en, s, m, args, below, meth, co, hx, hb, hml, hown, hk, hr, hlk, hnm0, hsz, hK⟩ := h
  refine (hK _ _ _ _ _ _).mpr (fun H locs ls ce hce hP hS hL => ?_)
  exact lv_iload_n hx hb hd hi (hL.2.2 _ _ hl) ((hK _ _ _ _ _ _).mp k H locs ls ce hce hP hS hL)
theorem zk_iload {l : Launch} {g : gG} {cc : ByteArray} {own : String} {nL : Nat} {R : Room} {n0 mc ms n' : Nat} {e' : Nat → va_E} {K : gCt} (h : gC l g cc own nL R n0 mc ms n' e' K) {pc : Nat} {L : List (Option Value)} {st : List Value} {n : Nat} {e : Nat → va_E} {sl : Nat} {i : Nat} {x : Int32} (hd : decode cc pc = .ok (.iload i, 2)) (hl : L[i]? = some (some (.int x))) (k : K (pc + 2) L (.int x :: st) n e sl) : K pc L st n e sl := by
  obtain ⟨p, en, s, m, args, below, meth, co, hx, hb, hml, hown, hk, hr, hlk, hnm0, hsz, hK⟩ := h
  refine (hK _ _ _ _ _ _).mpr (fun H locs ls ce hce hP hS hL => ?_)
  exact lv_iload hx hb hd (hL.2.2 _ _ hl) ((hK _ _ _ _ _ _).mp k H locs ls ce hce hP hS hL)
theorem zk_aload_n {l : Launch} {g : gG} {cc : ByteArray} {own : String} {nL : Nat} {R : Room} {n0 mc ms n' : Nat} {e' : Nat → va_E} {K : gCt} (h : gC l g cc own nL R n0 mc ms n' e' K) {pc : Nat} {L : List (Option Value)} {st : List Value} {n : Nat} {e : Nat → va_E} {sl : Nat} {q : Fin 4} {i : Nat} {x : Nat} (hd : decode cc pc = .ok (.aload_n q, 1)) (hi : (q : Nat) = i) (hl : L[i]? = some (some (.ref x))) (k : K (pc + 1) L (.ref x :: st) n e sl) : K pc L st n e sl := by
  obtain ⟨p, en, s, m, args, below, meth, co, hx, hb, hml, hown, hk, hr, hlk, hnm0, hsz, hK⟩ := h
  refine (hK _ _ _ _ _ _).mpr (fun H locs ls ce hce hP hS hL => ?_)
  exact lv_aload_n hx hb hd hi (hL.2.2 _ _ hl) ((hK _ _ _ _ _ _).mp k H locs ls ce hce hP hS hL)
theorem zk_aload {l : Launch} {g : gG} {cc : ByteArray} {own : String} {nL : Nat} {R : Room} {n0 mc ms n' : Nat} {e' : Nat → va_E} {K : gCt} (h : gC l g cc own nL R n0 mc ms n' e' K) {pc : Nat} {L : List (Option Value)} {st : List Value} {n : Nat} {e : Nat → va_E} {sl : Nat} {i : Nat} {x : Nat} (hd : decode cc pc = .ok (.aload i, 2)) (hl : L[i]? = some (some (.ref x))) (k : K (pc + 2) L (.ref x :: st) n e sl) : K pc L st n e sl := by
  obtain ⟨p, en, s, m, args, below, meth, co, hx, hb, hml, hown, hk, hr, hlk, hnm0, hsz, hK⟩ := h
  refine (hK _ _ _ _ _ _).mpr (fun H locs ls ce hce hP hS hL => ?_)
  exact lv_aload hx hb hd (hL.2.2 _ _ hl) ((hK _ _ _ _ _ _).mp k H locs ls ce hce hP hS hL)
theorem zk_istore_n {l : Launch} {g : gG} {cc : ByteArray} {own : String} {nL : Nat} {R : Room} {n0 mc ms n' : Nat} {e' : Nat → va_E} {K : gCt} (h : gC l g cc own nL R n0 mc ms n' e' K) {pc : Nat} {L : List (Option Value)} {st : List Value} {n : Nat} {e : Nat → va_E} {sl : Nat} {q : Fin 4} {i : Nat} {x : Int32} (hd : decode cc pc = .ok (.istore_n q, 1)) (hi : (q : Nat) = i) (hn : i < nL) (ho : gOk L i = true) (k : K (pc + 1) (L.set i (some (.int x))) st n e sl) : K pc L (.int x :: st) n e sl := by
  obtain ⟨p, en, s, m, args, below, meth, co, hx, hb, hml, hown, hk, hr, hlk, hnm0, hsz, hK⟩ := h
  refine (hK _ _ _ _ _ _).mpr (fun H locs ls ce hce hP hS hL => ?_)
  exact lv_istore_n hx hb hd hi hL.has hn rfl (fun ls' h' => (hK _ _ _ _ _ _).mp k H locs ls' ce hce hP hS (gL.put h' ho))
theorem zk_istore {l : Launch} {g : gG} {cc : ByteArray} {own : String} {nL : Nat} {R : Room} {n0 mc ms n' : Nat} {e' : Nat → va_E} {K : gCt} (h : gC l g cc own nL R n0 mc ms n' e' K) {pc : Nat} {L : List (Option Value)} {st : List Value} {n : Nat} {e : Nat → va_E} {sl : Nat} {i : Nat} {x : Int32} (hd : decode cc pc = .ok (.istore i, 2)) (hn : i < nL) (ho : gOk L i = true) (k : K (pc + 2) (L.set i (some (.int x))) st n e sl) : K pc L (.int x :: st) n e sl := by
  obtain ⟨p, en, s, m, args, below, meth, co, hx, hb, hml, hown, hk, hr, hlk, hnm0, hsz, hK⟩ := h
  refine (hK _ _ _ _ _ _).mpr (fun H locs ls ce hce hP hS hL => ?_)
  exact lv_istore hx hb hd hL.has hn rfl (fun ls' h' => (hK _ _ _ _ _ _).mp k H locs ls' ce hce hP hS (gL.put h' ho))
theorem zk_iinc {l : Launch} {g : gG} {cc : ByteArray} {own : String} {nL : Nat} {R : Room} {n0 mc ms n' : Nat} {e' : Nat → va_E} {K : gCt} (h : gC l g cc own nL R n0 mc ms n' e' K) {pc : Nat} {L : List (Option Value)} {st : List Value} {n : Nat} {e : Nat → va_E} {sl : Nat} {i : Nat} {j : Int} {x v : Int32} (hd : decode cc pc = .ok (.iinc i j, 3)) (hl : L[i]? = some (some (.int x))) (hv : x + Int32.ofInt j = v) (hn : i < nL) (ho : gOk L i = true) (k : K (pc + 3) (L.set i (some (.int v))) st n e sl) : K pc L st n e sl := by
  obtain ⟨p, en, s, m, args, below, meth, co, hx, hb, hml, hown, hk, hr, hlk, hnm0, hsz, hK⟩ := h
  refine (hK _ _ _ _ _ _).mpr (fun H locs ls ce hce hP hS hL => ?_)
  subst hv
  obtain ⟨q, hq⟩ := List.getElem?_of_mem (gAs_mem.mpr hl)
  exact lv_iinc hx hb hd hL.has hq rfl hn rfl (fun ls' h' => (hK _ _ _ _ _ _).mp k H locs ls' ce hce hP hS (gL.put h' ho))
theorem zk_goto {l : Launch} {g : gG} {cc : ByteArray} {own : String} {nL : Nat} {R : Room} {n0 mc ms n' : Nat} {e' : Nat → va_E} {K : gCt} (h : gC l g cc own nL R n0 mc ms n' e' K) {pc : Nat} {L : List (Option Value)} {st : List Value} {n : Nat} {e : Nat → va_E} {sl : Nat} {off : Int} {tgt : Nat} (hd : decode cc pc = .ok (.goto off, 3)) (ht : (pc : Int) + off = (tgt : Int)) (k : K tgt L st n e sl) : K pc L st n e sl := by
  obtain ⟨p, en, s, m, args, below, meth, co, hx, hb, hml, hown, hk, hr, hlk, hnm0, hsz, hK⟩ := h
  refine (hK _ _ _ _ _ _).mpr (fun H locs ls ce hce hP hS hL => ?_)
  exact lv_goto hx hb hd ht ((hK _ _ _ _ _ _).mp k H locs ls ce hce hP hS hL)
theorem zk_icmp_ge {l : Launch} {g : gG} {cc : ByteArray} {own : String} {nL : Nat} {R : Room} {n0 mc ms n' : Nat} {e' : Nat → va_E} {K : gCt} (h : gC l g cc own nL R n0 mc ms n' e' K) {pc : Nat} {L : List (Option Value)} {st : List Value} {n : Nat} {e : Nat → va_E} {sl : Nat} {x y : Int32} {off : Int} {tgt : Nat} (hd : decode cc pc = .ok (.if_icmp .ge off, 3)) (ht : (pc : Int) + off = (tgt : Int)) (kt : y ≤ x → K tgt L st n e sl) (kf : ¬ y ≤ x → K (pc + 3) L st n e sl) : K pc L (.int y :: .int x :: st) n e sl := by
  obtain ⟨p, en, s, m, args, below, meth, co, hx, hb, hml, hown, hk, hr, hlk, hnm0, hsz, hK⟩ := h
  refine (hK _ _ _ _ _ _).mpr (fun H locs ls ce hce hP hS hL => ?_)
  exact lv_icmp_ge hx hb hd ht (fun q => (hK _ _ _ _ _ _).mp (kt q) H locs ls ce hce hP hS hL) (fun q => (hK _ _ _ _ _ _).mp (kf q) H locs ls ce hce hP hS hL)
theorem zk_icmp_ne {l : Launch} {g : gG} {cc : ByteArray} {own : String} {nL : Nat} {R : Room} {n0 mc ms n' : Nat} {e' : Nat → va_E} {K : gCt} (h : gC l g cc own nL R n0 mc ms n' e' K) {pc : Nat} {L : List (Option Value)} {st : List Value} {n : Nat} {e : Nat → va_E} {sl : Nat} {x y : Int32} {off : Int} {tgt : Nat} (hd : decode cc pc = .ok (.if_icmp .ne off, 3)) (ht : (pc : Int) + off = (tgt : Int)) (kt : ¬ x = y → K tgt L st n e sl) (kf : x = y → K (pc + 3) L st n e sl) : K pc L (.int y :: .int x :: st) n e sl := by
  obtain ⟨p, en, s, m, args, below, meth, co, hx, hb, hml, hown, hk, hr, hlk, hnm0, hsz, hK⟩ := h
  refine (hK _ _ _ _ _ _).mpr (fun H locs ls ce hce hP hS hL => ?_)
  exact lv_icmp_ne hx hb hd ht (fun q => (hK _ _ _ _ _ _).mp (kt q) H locs ls ce hce hP hS hL) (fun q => (hK _ _ _ _ _ _).mp (kf q) H locs ls ce hce hP hS hL)
theorem zk_obj {l : Launch} {g : gG} {cc : ByteArray} {own : String} {nL : Nat} {R : Room} {n0 mc ms n' : Nat} {e' : Nat → va_E} {K : gCt} (h : gC l g cc own nL R n0 mc ms n' e' K) {pc : Nat} {L : List (Option Value)} {st : List Value} {n : Nat} {e : Nat → va_E} {sl : Nat} {idx : Nat} {a : Nat} (hw : Cond.methodLink own idx objectInit ∈ gwL) (hi : Cond.instanceMethod objectInit ∈ gwL) (hc : Cond.code objectInit ⟨#[0xb1]⟩ 1 none ∈ gwL) (hf : 1 ≤ R.frames) (hlo : (st.map fun v => v.category).sum + 12 ≤ R.locals) (hd : decode cc pc = .ok (.invokespecial idx, 3)) (k : K (pc + 3) L st n e sl) : K pc L (.ref a :: st) n e sl := by
  obtain ⟨p, en, s, m, args, below, meth, co, hx, hb, hml, hown, hk, hr, hlk, hnm0, hsz, hK⟩ := h
  refine (hK _ _ _ _ _ _).mpr (fun H locs ls ce hce hP hS hL => ?_)
  exact W.objInit hx hb hown (hk.1.2.use hw) (hk.1.2.use hi) (hk.1.2.use hc) rfl (hL.1.trans hml.symm) rfl hd hf (by simpa using hlo) ((hK _ _ _ _ _ _).mp k H locs ls ce hce hP hS hL)
theorem zk_new {l : Launch} {g : gG} {cc : ByteArray} {own : String} {nL : Nat} {R : Room} {n0 mc ms n' : Nat} {e' : Nat → va_E} {K : gCt} (h : gC l g cc own nL R n0 mc ms n' e' K) {pc : Nat} {L : List (Option Value)} {st : List Value} {n : Nat} {e : Nat → va_E} {sl : Nat} {c idx N : Nat} {C : String} {T : u_T} {ty : Nat → FieldType} {fs : List Value} (hc : vwCl[c]? = some (C, T, N)) (hws : ∀ w ∈ u_ws C T N, w ∈ gwL) (hty : ∀ k, k < N → parseFieldDescriptor (T k).2.2.1 = some (ty k)) (hw : Cond.classLink own idx C ∈ gwL) (hin : Cond.instantiable C N ∈ gwL) (hini : Cond.initialized C ∈ gwL) (hfs : ∀ j, j < N → defaultValue (ty j) = vp_V fs j) (hrc : n - n0 + 1 ≤ R.cells) (hrs : sl + N ≤ R.slots) (hd : decode cc pc = .ok (.new idx, 3)) (k : K (pc + 3) L (.ref (g.1 + n) :: st) (n + 1) (va_up e n (.inr (c, fs))) (sl + N)) : K pc L st n e sl := by
  obtain ⟨p, en, s, m, args, below, meth, co, hx, hb, hml, hown, hk, hr, hlk, hnm0, hsz, hK⟩ := h
  refine (hK _ _ _ _ _ _).mpr (fun H locs ls ce hce hP hS hL => ?_)
  refine gW_sz hsz hce (gWc_low hsz hce hP hS) (fun hH => ?_)
  have hKn := hk.1.1.1 c _ hc
  refine W.newcK hx hb hown (hk.1.2.use hw) (hk.1.2.use hin) (hk.1.2.use hini) rfl hd (by omega) hrs hKn.2.1 hH fun H1 kC hkC e1 z1 o1 => ?_
  have hkk : ∀ (k : Nat) (x : Nat × va_E), (gWc g n e)[k]? = some x → H1[x.1]? = H[x.1]? := fun k x hx => o1 x.1 (by rw [← hH]; exact (hP k x hx).lt)
  refine (hK _ _ _ _ _ _).mp k H1 locs ls (ce + 1) (by omega) ?_ ⟨Nat.le_trans hS.1 (by omega), fun x h1 h2 => (o1 x (by have := hS.1; omega)).trans (hS.2.1 x h1 h2), hS.2.2⟩ hL
  rw [← gWc_push]
  refine (hP.kept hkk).app (fun k x hx => ?_)
  have hz : k < 1 := (List.getElem?_eq_some_iff.mp hx).1
  rw [show k = 0 by omega] at hx
  cases hx
  exact ⟨_, hc, (u_born ty (ws := u_ws C T N) (fun w hw => hk.1.2.use (A := args) (hws w hw)) (fun _ h => h) hKn hkC e1 hty).to hfs⟩
theorem zk_new_int {l : Launch} {g : gG} {cc : ByteArray} {own : String} {nL : Nat} {R : Room} {n0 mc ms n' : Nat} {e' : Nat → va_E} {K : gCt} (h : gC l g cc own nL R n0 mc ms n' e' K) {pc : Nat} {L : List (Option Value)} {st : List Value} {n : Nat} {e : Nat → va_E} {sl : Nat} {i : Int32} {N : Nat} (hi : ¬ i < 0) (hN : i.toNatClampNeg = N) (hby : N * componentBytes .int ≤ 536870912) (hrc : n - n0 + 1 ≤ R.cells) (hrs : sl + N ≤ R.slots) (hd : decode cc pc = .ok (.newarray .int, 2)) (k : K (pc + 2) L (.ref (g.1 + n) :: st) (n + 1) (va_up e n (.inl (g.2.2 0, N, .inl (fun _ => 0)))) (sl + N)) : K pc L (.int i :: st) n e sl := by
  obtain ⟨p, en, s, m, args, below, meth, co, hx, hb, hml, hown, hk, hr, hlk, hnm0, hsz, hK⟩ := h
  refine (hK _ _ _ _ _ _).mpr (fun H locs ls ce hce hP hS hL => ?_)
  refine gW_sz hsz hce (gWc_low hsz hce hP hS) (fun hH => ?_)
  refine va_newaK (atype := .int) hx hb (word_at (State.WarmedH.refl s) (Or.inr ⟨_, rfl⟩) hk.2.1.1) rfl hd rfl hi hN hby (by omega) hrs hH fun H1 cA e1 z1 o1 hAr hNm => ?_
  have hcA : cA = g.2.2 0 := Option.some.inj (hNm.symm.trans (hk.1.1.2 0 _ rfl).2)
  subst hcA
  have hkk : ∀ (k : Nat) (x : Nat × va_E), (gWc g n e)[k]? = some x → H1[x.1]? = H[x.1]? := fun k x hx => o1 x.1 (by rw [← hH]; exact (hP k x hx).lt)
  refine (hK _ _ _ _ _ _).mp k H1 locs ls (ce + 1) (by omega) ?_ ⟨Nat.le_trans hS.1 (by omega), fun x h1 h2 => (o1 x (by have := hS.1; omega)).trans (hS.2.1 x h1 h2), hS.2.2⟩ hL
  rw [← gWc_push]
  refine (hP.kept hkk).app (fun k x hx => ?_)
  have hz : k < 1 := (List.getElem?_eq_some_iff.mp hx).1
  rw [show k = 0 by omega] at hx
  cases hx
  exact e1
theorem zk_new_byte {l : Launch} {g : gG} {cc : ByteArray} {own : String} {nL : Nat} {R : Room} {n0 mc ms n' : Nat} {e' : Nat → va_E} {K : gCt} (h : gC l g cc own nL R n0 mc ms n' e' K) {pc : Nat} {L : List (Option Value)} {st : List Value} {n : Nat} {e : Nat → va_E} {sl : Nat} {i : Int32} {N : Nat} (hi : ¬ i < 0) (hN : i.toNatClampNeg = N) (hby : N * componentBytes .byte ≤ 536870912) (hrc : n - n0 + 1 ≤ R.cells) (hrs : sl + N ≤ R.slots) (hd : decode cc pc = .ok (.newarray .byte, 2)) (k : K (pc + 2) L (.ref (g.1 + n) :: st) (n + 1) (va_up e n (.inl (g.2.2 1, N, .inl (fun _ => 0)))) (sl + N)) : K pc L (.int i :: st) n e sl := by
  obtain ⟨p, en, s, m, args, below, meth, co, hx, hb, hml, hown, hk, hr, hlk, hnm0, hsz, hK⟩ := h
  refine (hK _ _ _ _ _ _).mpr (fun H locs ls ce hce hP hS hL => ?_)
  refine gW_sz hsz hce (gWc_low hsz hce hP hS) (fun hH => ?_)
  refine va_newaK (atype := .byte) hx hb (word_at (State.WarmedH.refl s) (Or.inr ⟨_, rfl⟩) hk.2.1.2.1) rfl hd rfl hi hN hby (by omega) hrs hH fun H1 cA e1 z1 o1 hAr hNm => ?_
  have hcA : cA = g.2.2 1 := Option.some.inj (hNm.symm.trans (hk.1.1.2 1 _ rfl).2)
  subst hcA
  have hkk : ∀ (k : Nat) (x : Nat × va_E), (gWc g n e)[k]? = some x → H1[x.1]? = H[x.1]? := fun k x hx => o1 x.1 (by rw [← hH]; exact (hP k x hx).lt)
  refine (hK _ _ _ _ _ _).mp k H1 locs ls (ce + 1) (by omega) ?_ ⟨Nat.le_trans hS.1 (by omega), fun x h1 h2 => (o1 x (by have := hS.1; omega)).trans (hS.2.1 x h1 h2), hS.2.2⟩ hL
  rw [← gWc_push]
  refine (hP.kept hkk).app (fun k x hx => ?_)
  have hz : k < 1 := (List.getElem?_eq_some_iff.mp hx).1
  rw [show k = 0 by omega] at hx
  cases hx
  exact e1
theorem zk_new_boolean {l : Launch} {g : gG} {cc : ByteArray} {own : String} {nL : Nat} {R : Room} {n0 mc ms n' : Nat} {e' : Nat → va_E} {K : gCt} (h : gC l g cc own nL R n0 mc ms n' e' K) {pc : Nat} {L : List (Option Value)} {st : List Value} {n : Nat} {e : Nat → va_E} {sl : Nat} {i : Int32} {N : Nat} (hi : ¬ i < 0) (hN : i.toNatClampNeg = N) (hby : N * componentBytes .boolean ≤ 536870912) (hrc : n - n0 + 1 ≤ R.cells) (hrs : sl + N ≤ R.slots) (hd : decode cc pc = .ok (.newarray .boolean, 2)) (k : K (pc + 2) L (.ref (g.1 + n) :: st) (n + 1) (va_up e n (.inl (g.2.2 2, N, .inl (fun _ => 0)))) (sl + N)) : K pc L (.int i :: st) n e sl := by
  obtain ⟨p, en, s, m, args, below, meth, co, hx, hb, hml, hown, hk, hr, hlk, hnm0, hsz, hK⟩ := h
  refine (hK _ _ _ _ _ _).mpr (fun H locs ls ce hce hP hS hL => ?_)
  refine gW_sz hsz hce (gWc_low hsz hce hP hS) (fun hH => ?_)
  refine va_newaK (atype := .boolean) hx hb (word_at (State.WarmedH.refl s) (Or.inr ⟨_, rfl⟩) hk.2.1.2.2) rfl hd rfl hi hN hby (by omega) hrs hH fun H1 cA e1 z1 o1 hAr hNm => ?_
  have hcA : cA = g.2.2 2 := Option.some.inj (hNm.symm.trans (hk.1.1.2 2 _ rfl).2)
  subst hcA
  have hkk : ∀ (k : Nat) (x : Nat × va_E), (gWc g n e)[k]? = some x → H1[x.1]? = H[x.1]? := fun k x hx => o1 x.1 (by rw [← hH]; exact (hP k x hx).lt)
  refine (hK _ _ _ _ _ _).mp k H1 locs ls (ce + 1) (by omega) ?_ ⟨Nat.le_trans hS.1 (by omega), fun x h1 h2 => (o1 x (by have := hS.1; omega)).trans (hS.2.1 x h1 h2), hS.2.2⟩ hL
  rw [← gWc_push]
  refine (hP.kept hkk).app (fun k x hx => ?_)
  have hz : k < 1 := (List.getElem?_eq_some_iff.mp hx).1
  rw [show k = 0 by omega] at hx
  cases hx
  exact e1
theorem zk_newq {l : Launch} {g : gG} {cc : ByteArray} {own : String} {nL : Nat} {R : Room} {n0 mc ms n' : Nat} {e' : Nat → va_E} {K : gCt} (h : gC l g cc own nL R n0 mc ms n' e' K) {pc : Nat} {L : List (Option Value)} {st : List Value} {n : Nat} {e : Nat → va_E} {sl : Nat} {idx : Nat} {i : Int32} {N : Nat} (hw : Cond.classLink own idx RX9 ∈ gwL) (hi : ¬ i < 0) (hN : i.toNatClampNeg = N) (hby : N * 4 ≤ 536870912) (hrc : n - n0 + 1 ≤ R.cells) (hrs : sl + N ≤ R.slots) (hd : decode cc pc = .ok (.anewarray idx, 3)) (k : K (pc + 3) L (.ref (g.1 + n) :: st) (n + 1) (va_up e n (.inl (g.2.2 3, N, .inr (.inr (.inr (.inr (fun _ => none))))))) (sl + N)) : K pc L (.int i :: st) n e sl := by
  obtain ⟨p, en, s, m, args, below, meth, co, hx, hb, hml, hown, hk, hr, hlk, hnm0, hsz, hK⟩ := h
  refine (hK _ _ _ _ _ _).mpr (fun H locs ls ce hce hP hS hL => ?_)
  refine gW_sz hsz hce (gWc_low hsz hce hP hS) (fun hH => ?_)
  subst hN
  refine W.anew hx hb hown (hk.1.2.use hw) (va_AO.use hk.2.2) rfl hd rfl hi hby (by omega) hrs fun cA kA comp f1 f2 f3 f4 => ?_
  obtain ⟨kA', comp', -, -, -, f5⟩ := (hk.1.1.2 3 _ rfl).2
  have hcA : cA = g.2.2 3 := Option.some.inj (f1.symm.trans f5)
  subst hcA
  generalize hH1 : H.push ({ cls := g.2.2 3, slots := Array.replicate i.toNatClampNeg .null, vm := .none } : Cell) = H1
  have z1 : H1.size = H.size + 1 := by rw [← hH1, Array.size_push]
  have e1 : H1[H.size]? = some (arrV (g.2.2 3) i.toNatClampNeg (fun _ => .null)) := by rw [← hH1, Array.getElem?_push_size, ← arrV_new]
  have o1 : ∀ q : Nat, q < H.size → H1[q]? = H[q]? := fun q hq => by rw [← hH1, Array.getElem?_push, if_neg (Nat.ne_of_lt hq)]
  have hkk : ∀ (k : Nat) (x : Nat × va_E), (gWc g n e)[k]? = some x → H1[x.1]? = H[x.1]? := fun k x hx => o1 x.1 ((hP k x hx).lt)
  rw [hH] at e1 ⊢
  refine (hK _ _ _ _ _ _).mp k H1 locs ls (ce + 1) (by omega) ?_ ⟨Nat.le_trans hS.1 (by omega), fun x h1 h2 => (o1 x (by have := hS.1; omega)).trans (hS.2.1 x h1 h2), hS.2.2⟩ hL
  rw [← gWc_push]
  refine (hP.kept hkk).app (fun k x hx => ?_)
  have hz : k < 1 := (List.getElem?_eq_some_iff.mp hx).1
  rw [show k = 0 by omega] at hx
  cases hx
  exact e1
theorem zk_get {l : Launch} {g : gG} {cc : ByteArray} {own : String} {nL : Nat} {R : Room} {n0 mc ms n' : Nat} {e' : Nat → va_E} {K : gCt} (h : gC l g cc own nL R n0 mc ms n' e' K) {pc : Nat} {L : List (Option Value)} {st : List Value} {n : Nat} {e : Nat → va_E} {sl : Nat} {a c j idx N : Nat} {C : String} {T : u_T} {v : Value} {fs : List Value} (ha : a < n) (he : e a = .inr (c, fs)) (hc : vwCl[c]? = some (C, T, N)) (hj : j < N) (hT : (T j).1 = C) (hws : ∀ w ∈ u_ws C T N, w ∈ gwL) (hw : Cond.fieldLink own idx C (T j).2.1 (T j).2.2.1 ∈ gwL) (hv : fs[j]? = some v) (hd : decode cc pc = .ok (.getfield idx, 3)) (k : K (pc + 3) L (v :: st) n e sl) : K pc L (.ref (g.1 + a) :: st) n e sl := by
  obtain ⟨p, en, s, m, args, below, meth, co, hx, hb, hml, hown, hk, hr, hlk, hnm0, hsz, hK⟩ := h
  refine (hK _ _ _ _ _ _).mpr (fun H locs ls ce hce hP hS hL => ?_)
  exact va_get hx hb (Ts := u_ws C T N) (fun w hw => hk.1.2.use (hws w hw)) (fun _ h => h) hown hk.1.1 hP a (by rw [gWc_at g e ha, he]) hc j hj (hk.1.2.use hw) (by rw [hT]; exact fun _ h => h) hv hd ((hK _ _ _ _ _ _).mp k H locs ls ce hce hP hS hL)
theorem zk_putF {l : Launch} {g : gG} {cc : ByteArray} {own : String} {nL : Nat} {R : Room} {n0 mc ms n' : Nat} {e' : Nat → va_E} {K : gCt} (h : gC l g cc own nL R n0 mc ms n' e' K) {pc : Nat} {L : List (Option Value)} {st : List Value} {n : Nat} {e : Nat → va_E} {sl : Nat} {a c j idx N : Nat} {C : String} {T : u_T} {v : Value} {fs : List Value} {ty0 : Nat → FieldType} (ha : a < n) (he : e a = .inr (c, fs)) (hc : vwCl[c]? = some (C, T, N)) (hj : j < N) (hT : (T j).1 = C) (hoc : C = own) (hws : ∀ w ∈ u_ws C T N, w ∈ gwL) (hw : Cond.fieldLink own idx C (T j).2.1 (T j).2.2.1 ∈ gwL) (hty : ∀ k, k < N → parseFieldDescriptor (T k).2.2.1 = some (ty0 k)) (hnm : ∀ a, a < N → ∀ b, b < N → a ≠ b → (T a).2.1 ≠ (T b).2.1) (hfin : (T j).2.2.2 = true) (hn : narrow (ty0 j) v = v) (hfit : fits (ty0 j) v = true) (hl : j < fs.length) (hd : decode cc pc = .ok (.putfield idx, 3)) (k : K (pc + 3) L st n (va_up e a (.inr (c, fs.set j v))) sl) : K pc L (v :: .ref (g.1 + a) :: st) n e sl := by
  obtain ⟨p, en, s, m, args, below, meth, co, hx, hb, hml, hown, hk, hr, hlk, hnm0, hsz, hK⟩ := h
  refine (hK _ _ _ _ _ _).mpr (fun H locs ls ce hce hP hS hL => ?_)
  refine va_putF hx hb (Ts := u_ws C T N) (fun w hw => hk.1.2.use (hws w hw)) (fun _ h => h) ty0 hty hnm hown hk.1.1 hP (gWc_D g n e) hS a (by rw [gWc_at g e ha, he]) hc j hj (hk.1.2.use hw) (by rw [hT]; exact fun _ h => h) hfin hnm0 (hT.trans hoc) (ty := ty0 j) (hty j hj) hn hfit hl hd (fun H1 locs1 hP1 _ hS1 => ?_)
  rw [gWc_set g e _ ha] at hP1
  exact (hK _ _ _ _ _ _).mp k H1 locs1 ls ce hce hP1 hS1 hL
theorem zk_put {l : Launch} {g : gG} {cc : ByteArray} {own : String} {nL : Nat} {R : Room} {n0 mc ms n' : Nat} {e' : Nat → va_E} {K : gCt} (h : gC l g cc own nL R n0 mc ms n' e' K) {pc : Nat} {L : List (Option Value)} {st : List Value} {n : Nat} {e : Nat → va_E} {sl : Nat} {a c j idx N : Nat} {C : String} {T : u_T} {v : Value} {fs : List Value} {ty0 : Nat → FieldType} (ha : a < n) (he : e a = .inr (c, fs)) (hc : vwCl[c]? = some (C, T, N)) (hj : j < N) (hT : (T j).1 = C) (hws : ∀ w ∈ u_ws C T N, w ∈ gwL) (hw : Cond.fieldLink own idx C (T j).2.1 (T j).2.2.1 ∈ gwL) (hty : ∀ k, k < N → parseFieldDescriptor (T k).2.2.1 = some (ty0 k)) (hnm : ∀ a, a < N → ∀ b, b < N → a ≠ b → (T a).2.1 ≠ (T b).2.1) (hfin : (T j).2.2.2 = false) (hn : narrow (ty0 j) v = v) (hfit : fits (ty0 j) v = true) (hl : j < fs.length) (hd : decode cc pc = .ok (.putfield idx, 3)) (k : K (pc + 3) L st n (va_up e a (.inr (c, fs.set j v))) sl) : K pc L (v :: .ref (g.1 + a) :: st) n e sl := by
  obtain ⟨p, en, s, m, args, below, meth, co, hx, hb, hml, hown, hk, hr, hlk, hnm0, hsz, hK⟩ := h
  refine (hK _ _ _ _ _ _).mpr (fun H locs ls ce hce hP hS hL => ?_)
  refine va_put hx hb (Ts := u_ws C T N) (fun w hw => hk.1.2.use (hws w hw)) (fun _ h => h) ty0 hty hnm hown hk.1.1 hP (gWc_D g n e) hS a (by rw [gWc_at g e ha, he]) hc j hj (hk.1.2.use hw) (by rw [hT]; exact fun _ h => h) hfin (ty := ty0 j) (hty j hj) hn hfit hl hd (fun H1 locs1 hP1 _ hS1 => ?_)
  rw [gWc_set g e _ ha] at hP1
  exact (hK _ _ _ _ _ _).mp k H1 locs1 ls ce hce hP1 hS1 hL
theorem zk_iald {l : Launch} {g : gG} {cc : ByteArray} {own : String} {nL : Nat} {R : Room} {n0 mc ms n' : Nat} {e' : Nat → va_E} {K : gCt} (h : gC l g cc own nL R n0 mc ms n' e' K) {pc : Nat} {L : List (Option Value)} {st : List Value} {n : Nat} {e : Nat → va_E} {sl : Nat} {a N q : Nat} {i : Int32} {f : Nat → Int32} (ha : a < n) (he : e a = .inl (g.2.2 0, N, .inl f)) (hin : gIn i N = true) (hi : i.toNatClampNeg = q) (hd : decode cc pc = .ok (.iaload, 1)) (k : K (pc + 1) L (.int (f q) :: st) n e sl) : K pc L (.int i :: .ref (g.1 + a) :: st) n e sl := by
  obtain ⟨p, en, s, m, args, below, meth, co, hx, hb, hml, hown, hk, hr, hlk, hnm0, hsz, hK⟩ := h
  refine (hK _ _ _ _ _ _).mpr (fun H locs ls ce hce hP hS hL => ?_)
  subst hi
  exact va_iald hx hb hk.1.1 hP a 0 (by rw [gWc_at g e ha, he]) rfl (gIn_vp hin) hd ((hK _ _ _ _ _ _).mp k H locs ls ce hce hP hS hL)
theorem zk_iast {l : Launch} {g : gG} {cc : ByteArray} {own : String} {nL : Nat} {R : Room} {n0 mc ms n' : Nat} {e' : Nat → va_E} {K : gCt} (h : gC l g cc own nL R n0 mc ms n' e' K) {pc : Nat} {L : List (Option Value)} {st : List Value} {n : Nat} {e : Nat → va_E} {sl : Nat} {a N q : Nat} {i x : Int32} {f : Nat → Int32} (ha : a < n) (he : e a = .inl (g.2.2 0, N, .inl f)) (hin : gIn i N = true) (hi : i.toNatClampNeg = q) (hd : decode cc pc = .ok (.iastore, 1)) (k : K (pc + 1) L st n (va_up e a (.inl (g.2.2 0, N, .inl (upd f q x)))) sl) : K pc L (.int x :: .int i :: .ref (g.1 + a) :: st) n e sl := by
  obtain ⟨p, en, s, m, args, below, meth, co, hx, hb, hml, hown, hk, hr, hlk, hnm0, hsz, hK⟩ := h
  refine (hK _ _ _ _ _ _).mpr (fun H locs ls ce hce hP hS hL => ?_)
  subst hi
  refine va_iast hx hb hk.1.1 hP (gWc_D g n e) hS a 0 (by rw [gWc_at g e ha, he]) rfl (gIn_vp hin) hd (fun H1 locs1 hP1 _ hS1 => ?_)
  rw [gWc_set g e _ ha] at hP1
  exact (hK _ _ _ _ _ _).mp k H1 locs1 ls ce hce hP1 hS1 hL
theorem zk_astq {l : Launch} {g : gG} {cc : ByteArray} {own : String} {nL : Nat} {R : Room} {n0 mc ms n' : Nat} {e' : Nat → va_E} {K : gCt} (h : gC l g cc own nL R n0 mc ms n' e' K) {pc : Nat} {L : List (Option Value)} {st : List Value} {n : Nat} {e : Nat → va_E} {sl : Nat} {a b N q : Nat} {i : Int32} {f : Nat → Option Nat} {vs : List Value} (ha : a < n) (he : e a = .inl (g.2.2 3, N, .inr (.inr (.inr (.inr f))))) (hb0 : b < n) (heb : e b = .inr (9, vs)) (hin : gIn i N = true) (hi : i.toNatClampNeg = q) (hd : decode cc pc = .ok (.aastore, 1)) (k : K (pc + 1) L st n (va_up e a (.inl (g.2.2 3, N, .inr (.inr (.inr (.inr (va_up f q (some (g.1 + b))))))))) sl) : K pc L (.ref (g.1 + b) :: .int i :: .ref (g.1 + a) :: st) n e sl := by
  obtain ⟨p, en, s, m, args, below, meth, co, hx, hb, hml, hown, hk, hr, hlk, hnm0, hsz, hK⟩ := h
  refine (hK _ _ _ _ _ _).mpr (fun H locs ls ce hce hP hS hL => ?_)
  subst hi
  refine va_astq hx hb hk.1.1 hP (gWc_D g n e) hS a 3 b 9 (by rw [gWc_at g e ha, he]) rfl (by rw [gWc_at g e hb0, heb]) rfl (gIn_vp hin) hd (fun H1 locs1 hP1 _ hS1 => ?_)
  rw [gWc_set g e _ ha] at hP1
  exact (hK _ _ _ _ _ _).mp k H1 locs1 ls ce hce hP1 hS1 hL
theorem zk_ret {l : Launch} {g : gG} {cc : ByteArray} {own : String} {nL : Nat} {R : Room} {n0 mc ms n' : Nat} {e' : Nat → va_E} {K : gCt} (h : gC l g cc own nL R n0 mc ms n' e' K) {pc : Nat} {L : List (Option Value)} {n : Nat} {e : Nat → va_E} {sl : Nat} (hn : n' = n) (hc : n0 + mc = n) (hs : ms = sl) (he : ∀ k, k < n → e k = e' k) (hd : decode cc pc = .ok (.return_, 1)) : K pc L [] n e sl := by
  obtain ⟨p, en, s, m, args, below, meth, co, hx, hb, hml, hown, hk, hr, hlk, hnm0, hsz, hK⟩ := h
  refine (hK _ _ _ _ _ _).mpr (fun H locs ls ce hce hP hS hL => ?_)
  subst hn
  subst hs
  obtain rfl : ce = mc := by omega
  exact W.vret hx hb hr (fun t ht _ => ⟨rfl, by rw [ht, ← gWc_cong g he]; exact hP, hS.F ht⟩) hS.2.2 hd hlk
theorem gPk_blind (g : gG) (As : List Value) (n : Nat) (e : Nat → va_E) : FrameBlind (gPk g As n e) := by
  intro a U gg mk hq
  obtain ⟨h1, h2, h3, ⟨h4, h5⟩, h6, h7⟩ := hq
  refine ⟨h1, h2, h3, ⟨va_K.moved (u := U) (U := U.calling gg mk a) (Vm.Alike.refl U.vm) h4, gT.same h5 rfl⟩, ?_⟩
  exact gAC.warm (s := U) ⟨h6, h7⟩ (State.WarmedH.refl U)
theorem zk_call {l : Launch} {g : gG} {cc : ByteArray} {own : String} {nL : Nat} {R : Room} {n0 mc ms n' : Nat} {e' : Nat → va_E} {K : gCt} (h : gC l g cc own nL R n0 mc ms n' e' K) {pc : Nat} {L : List (Option Value)} {st : List Value} {n : Nat} {e : Nat → va_E} {sl : Nat} {idx k1 nL1 rf rn mc1 ms1 b : Nat} {y : MethodName} {c1 : ByteArray} {host : String} {As sk : List Value} {n1 : Nat} {e1 : Nat → va_E} (hw : Cond.methodLinkNest own idx y host ∈ gwL) (hin : Cond.instanceMethod y ∈ gwL) (hco : gCode y c1 nL1 none k1) (hy : y.name = "<init>") (hR : rf + 1 ≤ R.frames ∧ 8 + (nL1 + 11) + rn ≤ R.locals) (hM : gMk l g y c1 nL1 rf rn mc1 ms1 (.ref (g.1 + b) :: As) n e n1 e1) (hn : As.length = k1) (hs : (st.map fun v => v.category).sum ≤ 8) (hrc : n - n0 + mc1 ≤ R.cells) (hrs : sl + ms1 ≤ R.slots) (hnn : n + mc1 = n1) (hd : decode cc pc = .ok (.invokespecial idx, 3)) (hsk : sk = As.reverse ++ .ref (g.1 + b) :: st) (k : K (pc + 3) L st n1 e1 (sl + ms1)) : K pc L sk n e sl := by
  obtain ⟨p, en, s, m, args, below, meth, co, hx, hb, hml, hown, hk, hr, hlk, hnm0, hsz, hK⟩ := h
  refine (hK _ _ _ _ _ _).mpr (fun H locs ls ce hce hP hS hL => ?_)
  subst hsk
  obtain ⟨q1, q2, q3, q4, q5⟩ := hco
  refine gW_sz hsz hce (gWc_low hsz hce hP hS) (fun hH => ?_)
  have hrun := va_runIN (As := As) (rest := st) (b := g.1 + b) (Ts := gwL) (n := k1) (bytes := c1) (maxL := nL1) ⟨hx, hb, hml, hown, fun w hw => hk.1.2.use hw⟩ hM ⟨va_cnB k1 (fun w hw => hk.1.2.use hw) (gGood q1) rfl rfl rfl (hk.1.2.use hw) (hk.1.2.use q2) ⟨q3, q4, q5⟩ hR, hy, hk.1.2.use hin⟩ ⟨gPk_blind _ _ _ _, fun U hU hW => ⟨rfl, by rw [hU]; exact hH, by rw [hU]; exact hP, ⟨va_K.moved hW.alike hk.1.1, hk.1.2.warm hW⟩, hk.2.warm hW⟩⟩ (g := F0 m pc ls (As.reverse ++ .ref (g.1 + b) :: st)) (H := H) (locs := locs) (cells := ce) (slots := sl) (below := below) (e := en) (meth := meth) (args := args) rfl hn hL.1 rfl (lv_room hs) hd ⟨by omega, hrs⟩
  intro T hT X
  obtain ⟨v, st₀, t, T', Lo, h0, X', hLo, f1, f2, ⟨hv, hw1, hz, hq⟩, stp⟩ := hrun T hT X
  cases hv
  rw [h0] at hz hq
  obtain ⟨t2, a1, b1⟩ := (hK _ _ _ _ _ _).mp k T'.heap (locs ++ Lo) ls (ce + mc1) (by omega) (by rw [f1]; exact hw1)
    ⟨Nat.le_trans hS.1 (by rw [f1]; exact hz), fun q h1 h2 => by rw [f1, hq q (Nat.lt_of_lt_of_le h1 hS.1) h2]; exact hS.2.1 q h1 h2, fun q hq => by
      rcases List.mem_append.mp hq with h | h
      · exact hS.2.2 q h
      · exact hLo q h⟩ hL T' rfl X'
  exact ⟨t2, stp t2 a1, b1⟩
