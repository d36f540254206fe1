/-! cells of the two objects by their numbers, what each is, the world; K: a walk's judgement with its context put away -/
abbrev gM : Type := Nat → Nat → Int32
def gUp (μ : gM) (a i : Nat) (v : Int32) : gM := va_up μ a (upd (μ a) i v)
def gCp (μ : gM) (a : Nat) (f : Nat → Int32) : gM := va_up μ a f
def gkL : List (Nat × Nat) := [(0, 11), (0, 7), (1, 1500), (1, 21), (0, 1), (1, 3), (1, 24), (1, 5), (1, 5), (1, 5), (1, 5), (1, 5), (1, 30), (1, 30), (1, 24), (1, 24), (1, 24), (0, 2), (0, 1), (1, 3), (1, 24), (1, 5), (1, 5), (1, 5), (1, 5), (1, 5), (1, 30), (1, 30), (1, 24), (1, 24), (1, 24), (0, 6), (0, 5), (1, 100), (0, 9), (0, 5), (1, 100), (0, 0), (1, 240), (1, 5), (1, 5), (1, 5), (1, 5), (1, 30), (1, 30), (1, 30), (1, 30), (1, 30), (0, 10), (0, 4), (4, 12), (4, 2), (0, 9), (0, 5), (1, 100), (0, 0), (1, 240), (1, 5), (1, 5), (1, 5), (1, 5), (1, 30), (1, 30), (1, 30), (1, 30), (1, 30), (0, 9), (0, 5), (1, 100), (0, 0), (1, 240), (1, 5), (1, 5), (1, 5), (1, 5), (1, 30), (1, 30), (1, 30), (1, 30), (1, 30), (0, 9), (0, 5), (1, 100), (0, 0), (1, 240), (1, 5), (1, 5), (1, 5), (1, 5), (1, 30), (1, 30), (1, 30), (1, 30), (1, 30), (0, 9), (0, 5), (1, 100), (0, 0), (1, 240), (1, 5), (1, 5), (1, 5), (1, 5), (1, 30), (1, 30), (1, 30), (1, 30), (1, 30), (0, 9), (0, 5), (1, 100), (0, 0), (1, 240), (1, 5), (1, 5), (1, 5), (1, 5), (1, 30), (1, 30), (1, 30), (1, 30), (1, 30), (0, 9), (0, 5), (1, 100), (0, 0), (1, 240), (1, 5), (1, 5), (1, 5), (1, 5), (1, 30), (1, 30), (1, 30), (1, 30), (1, 30), (0, 9), (0, 5), (1, 100), (0, 0), (1, 240), (1, 5), (1, 5), (1, 5), (1, 5), (1, 30), (1, 30), (1, 30), (1, 30), (1, 30), (0, 9), (0, 5), (1, 100), (0, 0), (1, 240), (1, 5), (1, 5), (1, 5), (1, 5), (1, 30), (1, 30), (1, 30), (1, 30), (1, 30), (0, 9), (0, 5), (1, 100), (0, 0), (1, 240), (1, 5), (1, 5), (1, 5), (1, 5), (1, 30), (1, 30), (1, 30), (1, 30), (1, 30), (0, 9), (0, 5), (1, 100), (0, 0), (1, 240), (1, 5), (1, 5), (1, 5), (1, 5), (1, 30), (1, 30), (1, 30), (1, 30), (1, 30), (0, 9), (0, 5), (1, 100), (0, 0), (1, 240), (1, 5), (1, 5), (1, 5), (1, 5), (1, 30), (1, 30), (1, 30), (1, 30), (1, 30), (0, 9), (0, 5), (1, 100), (0, 0), (1, 240), (1, 5), (1, 5), (1, 5), (1, 5), (1, 30), (1, 30), (1, 30), (1, 30), (1, 30), (0, 9), (0, 5), (1, 100), (0, 0), (1, 240), (1, 5), (1, 5), (1, 5), (1, 5), (1, 30), (1, 30), (1, 30), (1, 30), (1, 30), (0, 9), (0, 5), (1, 100), (0, 0), (1, 240), (1, 5), (1, 5), (1, 5), (1, 5), (1, 30), (1, 30), (1, 30), (1, 30), (1, 30), (0, 3), (0, 9), (0, 5), (1, 100), (0, 0), (1, 240), (1, 5), (1, 5), (1, 5), (1, 5), (1, 30), (1, 30), (1, 30), (1, 30), (1, 30), (0, 10), (0, 8), (1, 8), (1, 6), (0, 12), (2, 1500), (1, 209), (1, 209), (1, 100), (1, 490), (1, 7350), (3, 2), (1, 6), (1, 8), (1, 6)]
def gk (a : Nat) : Nat × Nat := gkL.getD a (9, 0)
def gRef (c j a : Nat) : Option Nat := match c, j with
  | 0, 2 => some (a + 1)
  | 1, 1 => some (a + 1)
  | 1, 2 => some (a + 2)
  | 1, 3 => some (a + 3)
  | 1, 4 => some (a + 4)
  | 1, 5 => some (a + 5)
  | 1, 6 => some (a + 6)
  | 1, 7 => some (a + 7)
  | 1, 8 => some (a + 8)
  | 1, 9 => some (a + 9)
  | 1, 11 => some (a + 10)
  | 1, 12 => some (a + 11)
  | 1, 13 => some (a + 12)
  | 2, 0 => some (1)
  | 2, 1 => some (a + 1)
  | 3, 0 => some (34)
  | 3, 1 => some (a + 1)
  | 3, 2 => some (a + 15)
  | 4, 0 => some (a + 1)
  | 4, 1 => some (a + 2)
  | 5, 1 => some (a + 1)
  | 6, 0 => some (1)
  | 6, 1 => some (4)
  | 6, 2 => some (a + 1)
  | 7, 0 => some (a + 1)
  | 7, 1 => some (a + 2)
  | 8, 0 => some (4)
  | 8, 1 => some (34)
  | 8, 2 => some (a + 1)
  | 8, 3 => some (a + 2)
  | 9, 9 => some (a + 1)
  | 9, 10 => some (a + 3)
  | 9, 11 => some (a + 5)
  | 9, 12 => some (a + 6)
  | 9, 13 => some (a + 7)
  | 9, 14 => some (a + 8)
  | 9, 15 => some (a + 9)
  | 9, 16 => some (a + 10)
  | 9, 17 => some (a + 11)
  | 9, 18 => some (a + 12)
  | 9, 19 => some (a + 13)
  | 10, 0 => some (4)
  | 10, 1 => some (a - 14)
  | 11, 0 => some (1)
  | 11, 1 => some (4)
  | 11, 2 => some (17)
  | 11, 3 => some (31)
  | 11, 4 => some (34)
  | 11, 5 => some (48)
  | 11, 6 => some (49)
  | 11, 7 => some (248)
  | 11, 8 => some (264)
  | 12, 1 => some (a + 1)
  | 12, 13 => some (a + 2)
  | 12, 14 => some (a + 3)
  | 12, 17 => some (a + 4)
  | 12, 18 => some (a + 5)
  | 12, 19 => some (a + 6)
  | 12, 21 => some (a + 7)
  | 12, 23 => some (a + 8)
  | 12, 24 => some (a + 9)
  | 12, 25 => some (a + 10)
  | _, _ => none
def gEl (a i : Nat) : Nat := if a = 50 then 52 + 14 * i else 220 + 14 * i
def gFd (B c a : Nat) (f : Nat → Int32) (j : Nat) : Value := match gRef c j a with
  | some t => .ref (B + t)
  | none => .int (f j)
def gNf (c : Nat) : Nat := ((vwCl[c]?).map (fun q => q.2.2)).getD 0
def gFs (B c a : Nat) (f : Nat → Int32) : List Value := (List.range (gNf c)).map (gFd B c a f)
abbrev gG : Type := Nat × va_G × (Nat → ClassId)
def gEn (g : gG) (a : Nat) (f : Nat → Int32) : va_E := match gk a with
  | (0, c) => .inr (c, gFs g.1 c a f)
  | (1, n) => .inl (g.2.2 0, n, .inl f)
  | (2, n) => .inl (g.2.2 1, n, .inl f)
  | (3, n) => .inl (g.2.2 2, n, .inl f)
  | (_, n) => .inl (g.2.2 3, n, .inr (.inr (.inr (.inr (fun i => some (g.1 + gEl a i))))))
def gW (g : gG) (μ : gM) : va_W := (List.range 278).map fun a => (g.1 + a, gEn g a (μ a))
theorem gkL_len : gkL.length = 278 := by decide +kernel
theorem gk_lt {a k n : Nat} (h : gk a = (k, n)) (hq : k ≠ 9) : a < 278 := by
  rcases Nat.lt_or_ge a 278 with h1 | h1
  · exact h1
  · exfalso
    apply hq
    have h2 : gkL[a]? = none := List.getElem?_eq_none (by rw [gkL_len]; exact h1)
    have h3 : gk a = (9, 0) := by unfold gk; rw [List.getD_eq_getElem?_getD, h2]; rfl
    rw [h3] at h
    exact (congrArg Prod.fst h).symm
theorem gW_at (g : gG) (μ : gM) {a : Nat} (h : a < 278) : (gW g μ)[a]? = some (g.1 + a, gEn g a (μ a)) := by
  simp [gW, h]
theorem gW_set (g : gG) (μ : gM) {a : Nat} (f : Nat → Int32) (h : a < 278) : (gW g μ).set a (g.1 + a, gEn g a f) = gW g (gCp μ a f) := by
  apply List.ext_getElem?
  intro i
  rw [List.getElem?_set]
  by_cases hi : a = i
  · subst hi
    have h1 : a < (gW g μ).length := by simp [gW, h]
    rw [if_pos rfl, if_pos h1, gW_at g _ h]
    simp [gCp, va_up]
  · rw [if_neg hi]
    rcases Nat.lt_or_ge i 278 with h1 | h1
    · rw [gW_at g _ h1, gW_at g _ h1]
      have e : ¬ i = a := fun q => hi q.symm
      simp [gCp, va_up, e]
    · have e1 : (gW g μ)[i]? = none := by simp [gW, h1]
      have e2 : (gW g (gCp μ a f))[i]? = none := by simp [gW, h1]
      rw [e1, e2]
def gA (B : Nat) : Nat → Prop := fun q => B ≤ q
theorem gW_D (g : gG) (μ : gM) : va_D (gA g.1) (gW g μ) := by
  refine ⟨fun i j p q hp hq hpq => ?_, fun k q hq => ?_⟩
  · rcases Nat.lt_or_ge i 278 with h1 | h1
    · rcases Nat.lt_or_ge j 278 with h2 | h2
      · rw [gW_at g _ h1] at hp
        rw [gW_at g _ h2] at hq
        cases hp; cases hq
        exact Nat.add_left_cancel hpq
      · simp [gW, h2] at hq
    · simp [gW, h1] at hp
  · rcases Nat.lt_or_ge k 278 with h1 | h1
    · rw [gW_at g _ h1] at hq
      cases hq
      exact Nat.le_add_right _ _
    · simp [gW, h1] at hq
/-! the tables' words that stay: each link, each code -/
def gNest : Cond → Bool
  | .fieldLinkNest _ _ _ _ _ _ => true
  | .methodLinkNest _ _ _ _ => true
  | _ => false
def gwOk (w : Cond) : Bool := w.onTables && (w.keeps || gNest w)
def gwL : List Cond := lw_tbl.filter gwOk
def gT (U : State) : Prop := ∀ w ∈ gwL, w.before #[] U = true
theorem gw_in {w : Cond} (i : Nat) (h : lw_tbl[i]? = some w) (ho : gwOk w = true) : w ∈ gwL := List.mem_filter.mpr ⟨List.mem_of_getElem? h, ho⟩
theorem gw_tab {w : Cond} (h : w ∈ gwL) : w.onTables = true := by
  have h1 := (List.mem_filter.mp h).2
  simp only [gwOk, Bool.and_eq_true] at h1
  exact h1.1
theorem gT.use {U : State} (h : gT U) {w : Cond} (hw : w ∈ gwL) {A : Array Value} : w.before A U = true := va_tabs (gw_tab hw) rfl (h w hw)
theorem gT.same {u U : State} (h : gT u) (e : u.vm = U.vm) : gT U := fun w hw => va_tabs (gw_tab hw) e (h w hw)
theorem gT.warm {s U : State} (h : gT s) (hW : s.WarmedH U.vm) : gT U := by
  intro w hw
  have h1 := (List.mem_filter.mp hw).2
  simp only [gwOk, Bool.and_eq_true, Bool.or_eq_true] at h1
  obtain ⟨h2, h3 | h3⟩ := h1
  · exact word_at hW (Or.inl (by rw [h2, h3]; rfl)) (h w hw)
  · have h4 := h w hw
    cases w <;> first | (simp [gNest] at h3; done) | exact va_Nw.warmF hW h4 | exact va_Nw.warmM hW h4
def gTy (X : Nat → ClassId) : List (ClassId × FieldType) := [(X 0, .int), (X 1, .byte), (X 2, .boolean), (X 3, .object RX9)]
def gK (g : gG) (U : State) : Prop := va_K g.2.1 vwCl (gTy g.2.2) U ∧ gT U
def gWd (g : gG) (μ : gM) (H : Heap) : Prop := va_P g.2.1 vwCl (gW g μ) H
def gPc (g : gG) (As : List Value) (μ : gM) : Array Value → State → Prop := fun v U => v = As.toArray ∧ gWd g μ U.heap ∧ gK g U
def gQc (g : gG) (r : Option Value) (μ' : gM) : Array Value → State → Outcome → State → Prop := fun _ st oc t => oc = .returned r ∧ gWd g μ' t.heap ∧ va_F (gA g.1) st t
def gRm (f n : Nat) : Room := { frames := f, cells := 0, slots := 0, locals := n }
def gMet (l : Launch) (g : gG) (y : MethodName) (cc : ByteArray) (nL : Nat) (ret : Option FieldType) (rf rn : Nat) (As : List Value) (μ : gM) (r : Option Value) (μ' : gM) : Prop :=
  Met l y [.code y cc nL ret] (gRm rf rn) (gPc g As μ) (gQc g r μ') 0 0 (gA g.1)
/-! locals by their places -/
def gL (ls : Array Slot) (n : Nat) (L : List (Option Value)) : Prop := ls.size = n ∧ lv_wf ls ∧ ∀ (i : Nat) (v : Value), L[i]? = some (some v) → ls[i]? = some (.val v)
def gAs (L : List (Option Value)) : List (Nat × Value) := (List.range L.length).filterMap fun i => match L[i]? with
  | some (some v) => some (i, v)
  | _ => none
theorem gAs_mem {L : List (Option Value)} {i : Nat} {v : Value} : (i, v) ∈ gAs L ↔ L[i]? = some (some v) := by
  unfold gAs
  rw [List.mem_filterMap]
  constructor
  · rintro ⟨j, -, h⟩
    split at h
    · rename_i w hw
      cases h
      exact hw
    · cases h
  · intro h
    refine ⟨i, List.mem_range.mpr ?_, by rw [h]⟩
    exact (List.getElem?_eq_some_iff.mp h).1
theorem gL.has {ls : Array Slot} {n : Nat} {L : List (Option Value)} (h : gL ls n L) : lv_has ls n (gAs L) := ⟨h.1, h.2.1, fun q hq => h.2.2 q.1 q.2 (gAs_mem.mp hq)⟩
def gOk (L : List (Option Value)) (i : Nat) : Bool := match i with
  | 0 => true
  | k + 1 => match L[k]? with
    | some (some w) => w.category == 1
    | _ => true
theorem gL.put {ls : Array Slot} {n : Nat} {L : List (Option Value)} {i : Nat} {v : Value} (h : lv_has ls n ((i, v) :: (gAs L).filter (fun q => !(q.1 == i) && !(q.1 + 1 == i && q.2.category == 2)))) (ho : gOk L i = true) : gL ls n (L.set i (some v)) := by
  refine ⟨h.1, h.2.1, fun j w hj => ?_⟩
  rw [List.getElem?_set] at hj
  by_cases e : i = j
  · subst e
    rw [if_pos rfl] at hj
    split at hj
    · cases hj
      exact h.2.2 (i, v) List.mem_cons_self
    · cases hj
  · rw [if_neg e] at hj
    refine h.2.2 (j, w) (List.mem_cons_of_mem _ (List.mem_filter.mpr ⟨gAs_mem.mpr hj, ?_⟩))
    have e1 : (j == i) = false := by simpa using fun q : j = i => e q.symm
    by_cases e2 : j + 1 = i
    · subst e2
      simp only [gOk, hj] at ho
      have e3 : w.category = 1 := by simpa using ho
      simp [e3]
    · simp [e1, e2, fun q : j = i => e q.symm]
/-! K under its rules -/
abbrev gKt : Type := Nat → List (Option Value) → List Value → gM → Prop
def gR (l : Launch) (g : gG) (cc : ByteArray) (own : String) (nL : Nat) (ret : Option FieldType) (R : Room) (r : Option Value) (μ' : gM) (K : gKt) : Prop :=
  ∃ (p : Program) (e : Env) (s : State) (m : MethodId) (args : Array Value) (below : List Frame) (meth : Method) (c : Code),
    p.tables.exec = Jvm.exec ∧ c.code = cc ∧ c.maxLocals = nL ∧ s.vm.findClass own = some m.cls ∧ gK g s ∧ meth.sig.returnType = ret ∧ meth.locks = false ∧
    ∀ (pc : Nat) (L : List (Option Value)) (st : List Value) (μ : gM), K pc L st μ ↔ ∀ (H : Heap) (locs : List Loc) (ls : Array Slot), gWd g μ H → va_S (gA g.1) s.heap H locs → gL ls nL L → W p l e R s m args below meth c H locs 0 0 (MQ below (gQc g r μ') args s 0 0 (gA g.1)) (F0 m pc ls st)
theorem gMet_of {l : Launch} {g : gG} {y : MethodName} {cc : ByteArray} {nL : Nat} {ret : Option FieldType} {rf rn : Nat} {As : List Value} {μ : gM} {r : Option Value} {μ' : gM} (L0 : List (Option Value)) (hy : plainName y.cls = true)
    (hL0 : ∀ (i : Nat) (v : Value), L0[i]? = some (some v) → (i, v) ∈ lv_args 0 As) (hn : (lg_sl As).length ≤ nL)
    (body : ∀ K : gKt, gR l g cc y.cls nL ret (gRm rf rn) r μ' K → K 0 L0 [] μ) : gMet l g y cc nL ret rf rn As μ r μ' := by
  refine Met.ofW (cc := cc) (maxL := nL) (ret := ret) hy rfl ?_
  intro p e s m args below meth c s₁ B hml hv
  obtain ⟨rfl, hP, hk⟩ := hv
  have hl := lv_entry As (n := nL) hn
  rw [lg_entry_eq]
  have hb := body (fun pc L st ν => ∀ (H : Heap) (locs : List Loc) (ls : Array Slot), gWd g ν H → va_S (gA g.1) s.heap H locs → gL ls nL L → W p l e (gRm rf rn) s m As.toArray below meth c H locs 0 0 (MQ below (gQc g r μ') As.toArray s 0 0 (gA g.1)) (F0 m pc ls st))
    ⟨p, e, s, m, As.toArray, below, meth, c, B.exec, B.bytes, hml, findClass_of_methodNamed B.named, hk, B.returns, B.notSynchronized, fun _ _ _ _ => Iff.rfl⟩
  exact hb s.heap [] _ hP va_S.rf ⟨hl.1, hl.2.1, fun i v h => hl.2.2 (i, v) (hL0 i v h)⟩

theorem zr_iconst {l : Launch} {g : gG} {cc : ByteArray} {own : String} {nL : Nat} {ret : Option FieldType} {R : Room} {r : Option Value} {μ' : gM} {K : gKt} (h : gR l g cc own nL ret R r μ' K) {pc : Nat} {L : List (Option Value)} {st : List Value} {μ : gM} {n : Int} {v : Int32} (hd : decode cc pc = .ok (.iconst n, 1)) (hv : Int32.ofInt n = v) (k : K (pc + 1) L (.int v :: st) μ) : K pc L (st) μ := by
  obtain ⟨p, e, s, m, args, below, meth, c, hx, hb, hml, hown, hk, hr, hlk, hK⟩ := h
  refine (hK _ _ _ _).mpr (fun H locs ls hP hS hL => ?_)
  exact lv_iconst hx hb hd hv ((hK _ _ _ _).mp k H locs ls hP hS hL)
theorem zr_bipush {l : Launch} {g : gG} {cc : ByteArray} {own : String} {nL : Nat} {ret : Option FieldType} {R : Room} {r : Option Value} {μ' : gM} {K : gKt} (h : gR l g cc own nL ret R r μ' K) {pc : Nat} {L : List (Option Value)} {st : List Value} {μ : gM} {n : Int} {v : Int32} (hd : decode cc pc = .ok (.bipush n, 2)) (hv : (Int8.ofInt n).toInt32 = v) (k : K (pc + 2) L (.int v :: st) μ) : K pc L (st) μ := by
  obtain ⟨p, e, s, m, args, below, meth, c, hx, hb, hml, hown, hk, hr, hlk, hK⟩ := h
  refine (hK _ _ _ _).mpr (fun H locs ls hP hS hL => ?_)
  exact lv_bipush hx hb hd hv ((hK _ _ _ _).mp k H locs ls hP hS hL)
theorem zr_sipush {l : Launch} {g : gG} {cc : ByteArray} {own : String} {nL : Nat} {ret : Option FieldType} {R : Room} {r : Option Value} {μ' : gM} {K : gKt} (h : gR l g cc own nL ret R r μ' K) {pc : Nat} {L : List (Option Value)} {st : List Value} {μ : gM} {n : Int} {v : Int32} (hd : decode cc pc = .ok (.sipush n, 3)) (hv : (Int16.ofInt n).toInt32 = v) (k : K (pc + 3) L (.int v :: st) μ) : K pc L (st) μ := by
  obtain ⟨p, e, s, m, args, below, meth, c, hx, hb, hml, hown, hk, hr, hlk, hK⟩ := h
  refine (hK _ _ _ _).mpr (fun H locs ls hP hS hL => ?_)
  exact lv_sipush hx hb hd hv ((hK _ _ _ _).mp k H locs ls hP hS hL)
theorem zr_lconst {l : Launch} {g : gG} {cc : ByteArray} {own : String} {nL : Nat} {ret : Option FieldType} {R : Room} {r : Option Value} {μ' : gM} {K : gKt} (h : gR l g cc own nL ret R r μ' K) {pc : Nat} {L : List (Option Value)} {st : List Value} {μ : gM} {n : Fin 2} {v : Int64} (hd : decode cc pc = .ok (.lconst n, 1)) (hv : Int64.ofNat (n : Nat) = v) (k : K (pc + 1) L (.long v :: st) μ) : K pc L (st) μ := by
  obtain ⟨p, e, s, m, args, below, meth, c, hx, hb, hml, hown, hk, hr, hlk, hK⟩ := h
  refine (hK _ _ _ _).mpr (fun H locs ls hP hS hL => ?_)
  exact lv_lconst hx hb hd hv ((hK _ _ _ _).mp k H locs ls hP hS hL)
theorem zr_iadd {l : Launch} {g : gG} {cc : ByteArray} {own : String} {nL : Nat} {ret : Option FieldType} {R : Room} {r : Option Value} {μ' : gM} {K : gKt} (h : gR l g cc own nL ret R r μ' K) {pc : Nat} {L : List (Option Value)} {st : List Value} {μ : gM} {x y : Int32} (hd : decode cc pc = .ok (.iadd, 1))  (k : K (pc + 1) L (.int (x + y) :: st) μ) : K pc L (.int y :: .int x :: st) μ := by
  obtain ⟨p, e, s, m, args, below, meth, c, hx, hb, hml, hown, hk, hr, hlk, hK⟩ := h
  refine (hK _ _ _ _).mpr (fun H locs ls hP hS hL => ?_)
  exact lv_iadd hx hb hd  ((hK _ _ _ _).mp k H locs ls hP hS hL)
theorem zr_isub {l : Launch} {g : gG} {cc : ByteArray} {own : String} {nL : Nat} {ret : Option FieldType} {R : Room} {r : Option Value} {μ' : gM} {K : gKt} (h : gR l g cc own nL ret R r μ' K) {pc : Nat} {L : List (Option Value)} {st : List Value} {μ : gM} {x y : Int32} (hd : decode cc pc = .ok (.isub, 1))  (k : K (pc + 1) L (.int (x - y) :: st) μ) : K pc L (.int y :: .int x :: st) μ := by
  obtain ⟨p, e, s, m, args, below, meth, c, hx, hb, hml, hown, hk, hr, hlk, hK⟩ := h
  refine (hK _ _ _ _).mpr (fun H locs ls hP hS hL => ?_)
  exact lv_isub hx hb hd  ((hK _ _ _ _).mp k H locs ls hP hS hL)
theorem zr_imul {l : Launch} {g : gG} {cc : ByteArray} {own : String} {nL : Nat} {ret : Option FieldType} {R : Room} {r : Option Value} {μ' : gM} {K : gKt} (h : gR l g cc own nL ret R r μ' K) {pc : Nat} {L : List (Option Value)} {st : List Value} {μ : gM} {x y : Int32} (hd : decode cc pc = .ok (.imul, 1))  (k : K (pc + 1) L (.int (x * y) :: st) μ) : K pc L (.int y :: .int x :: st) μ := by
  obtain ⟨p, e, s, m, args, below, meth, c, hx, hb, hml, hown, hk, hr, hlk, hK⟩ := h
  refine (hK _ _ _ _).mpr (fun H locs ls hP hS hL => ?_)
  exact lv_imul hx hb hd  ((hK _ _ _ _).mp k H locs ls hP hS hL)
theorem zr_iand {l : Launch} {g : gG} {cc : ByteArray} {own : String} {nL : Nat} {ret : Option FieldType} {R : Room} {r : Option Value} {μ' : gM} {K : gKt} (h : gR l g cc own nL ret R r μ' K) {pc : Nat} {L : List (Option Value)} {st : List Value} {μ : gM} {x y : Int32} (hd : decode cc pc = .ok (.iand, 1))  (k : K (pc + 1) L (.int (x &&& y) :: st) μ) : K pc L (.int y :: .int x :: st) μ := by
  obtain ⟨p, e, s, m, args, below, meth, c, hx, hb, hml, hown, hk, hr, hlk, hK⟩ := h
  refine (hK _ _ _ _).mpr (fun H locs ls hP hS hL => ?_)
  exact lv_iand hx hb hd  ((hK _ _ _ _).mp k H locs ls hP hS hL)
theorem zr_ior {l : Launch} {g : gG} {cc : ByteArray} {own : String} {nL : Nat} {ret : Option FieldType} {R : Room} {r : Option Value} {μ' : gM} {K : gKt} (h : gR l g cc own nL ret R r μ' K) {pc : Nat} {L : List (Option Value)} {st : List Value} {μ : gM} {x y : Int32} (hd : decode cc pc = .ok (.ior, 1))  (k : K (pc + 1) L (.int (x ||| y) :: st) μ) : K pc L (.int y :: .int x :: st) μ := by
  obtain ⟨p, e, s, m, args, below, meth, c, hx, hb, hml, hown, hk, hr, hlk, hK⟩ := h
  refine (hK _ _ _ _).mpr (fun H locs ls hP hS hL => ?_)
  exact lv_ior hx hb hd  ((hK _ _ _ _).mp k H locs ls hP hS hL)
theorem zr_ixor {l : Launch} {g : gG} {cc : ByteArray} {own : String} {nL : Nat} {ret : Option FieldType} {R : Room} {r : Option Value} {μ' : gM} {K : gKt} (h : gR l g cc own nL ret R r μ' K) {pc : Nat} {L : List (Option Value)} {st : List Value} {μ : gM} {x y : Int32} (hd : decode cc pc = .ok (.ixor, 1))  (k : K (pc + 1) L (.int (x ^^^ y) :: st) μ) : K pc L (.int y :: .int x :: st) μ := by
  obtain ⟨p, e, s, m, args, below, meth, c, hx, hb, hml, hown, hk, hr, hlk, hK⟩ := h
  refine (hK _ _ _ _).mpr (fun H locs ls hP hS hL => ?_)
  exact lv_ixor hx hb hd  ((hK _ _ _ _).mp k H locs ls hP hS hL)
theorem zr_ishl {l : Launch} {g : gG} {cc : ByteArray} {own : String} {nL : Nat} {ret : Option FieldType} {R : Room} {r : Option Value} {μ' : gM} {K : gKt} (h : gR l g cc own nL ret R r μ' K) {pc : Nat} {L : List (Option Value)} {st : List Value} {μ : gM} {x y : Int32} (hd : decode cc pc = .ok (.ishl, 1))  (k : K (pc + 1) L (.int (x <<< (y &&& 31)) :: st) μ) : K pc L (.int y :: .int x :: st) μ := by
  obtain ⟨p, e, s, m, args, below, meth, c, hx, hb, hml, hown, hk, hr, hlk, hK⟩ := h
  refine (hK _ _ _ _).mpr (fun H locs ls hP hS hL => ?_)
  exact lv_ishl hx hb hd  ((hK _ _ _ _).mp k H locs ls hP hS hL)
theorem zr_ishr {l : Launch} {g : gG} {cc : ByteArray} {own : String} {nL : Nat} {ret : Option FieldType} {R : Room} {r : Option Value} {μ' : gM} {K : gKt} (h : gR l g cc own nL ret R r μ' K) {pc : Nat} {L : List (Option Value)} {st : List Value} {μ : gM} {x y : Int32} (hd : decode cc pc = .ok (.ishr, 1))  (k : K (pc + 1) L (.int (x >>> (y &&& 31)) :: st) μ) : K pc L (.int y :: .int x :: st) μ := by
  obtain ⟨p, e, s, m, args, below, meth, c, hx, hb, hml, hown, hk, hr, hlk, hK⟩ := h
  refine (hK _ _ _ _).mpr (fun H locs ls hP hS hL => ?_)
  exact lv_ishr hx hb hd  ((hK _ _ _ _).mp k H locs ls hP hS hL)
theorem zr_idiv {l : Launch} {g : gG} {cc : ByteArray} {own : String} {nL : Nat} {ret : Option FieldType} {R : Room} {r : Option Value} {μ' : gM} {K : gKt} (h : gR l g cc own nL ret R r μ' K) {pc : Nat} {L : List (Option Value)} {st : List Value} {μ : gM} {x y : Int32} (hd : decode cc pc = .ok (.idiv, 1)) (hne : ¬ y = 0) (k : K (pc + 1) L (.int (x / y) :: st) μ) : K pc L (.int y :: .int x :: st) μ := by
  obtain ⟨p, e, s, m, args, below, meth, c, hx, hb, hml, hown, hk, hr, hlk, hK⟩ := h
  refine (hK _ _ _ _).mpr (fun H locs ls hP hS hL => ?_)
  exact lv_idiv hx hb hd hne ((hK _ _ _ _).mp k H locs ls hP hS hL)
theorem zr_irem {l : Launch} {g : gG} {cc : ByteArray} {own : String} {nL : Nat} {ret : Option FieldType} {R : Room} {r : Option Value} {μ' : gM} {K : gKt} (h : gR l g cc own nL ret R r μ' K) {pc : Nat} {L : List (Option Value)} {st : List Value} {μ : gM} {x y : Int32} (hd : decode cc pc = .ok (.irem, 1)) (hne : ¬ y = 0) (k : K (pc + 1) L (.int (x - x / y * y) :: st) μ) : K pc L (.int y :: .int x :: st) μ := by
  obtain ⟨p, e, s, m, args, below, meth, c, hx, hb, hml, hown, hk, hr, hlk, hK⟩ := h
  refine (hK _ _ _ _).mpr (fun H locs ls hP hS hL => ?_)
  exact lv_irem hx hb hd hne ((hK _ _ _ _).mp k H locs ls hP hS hL)
theorem zr_iushr {l : Launch} {g : gG} {cc : ByteArray} {own : String} {nL : Nat} {ret : Option FieldType} {R : Room} {r : Option Value} {μ' : gM} {K : gKt} (h : gR l g cc own nL ret R r μ' K) {pc : Nat} {L : List (Option Value)} {st : List Value} {μ : gM} {x y : Int32} (hd : decode cc pc = .ok (.iushr, 1))  (k : K (pc + 1) L (.int (x.toUInt32 >>> (y.toUInt32 &&& Int32.toUInt32 31)).toInt32 :: st) μ) : K pc L (.int y :: .int x :: st) μ := by
  obtain ⟨p, e, s, m, args, below, meth, c, hx, hb, hml, hown, hk, hr, hlk, hK⟩ := h
  refine (hK _ _ _ _).mpr (fun H locs ls hP hS hL => ?_)
  exact lv_iushr hx hb hd rfl ((hK _ _ _ _).mp k H locs ls hP hS hL)
theorem zr_ineg {l : Launch} {g : gG} {cc : ByteArray} {own : String} {nL : Nat} {ret : Option FieldType} {R : Room} {r : Option Value} {μ' : gM} {K : gKt} (h : gR l g cc own nL ret R r μ' K) {pc : Nat} {L : List (Option Value)} {st : List Value} {μ : gM} {x : Int32} (hd : decode cc pc = .ok (.ineg, 1))  (k : K (pc + 1) L (.int (-x) :: st) μ) : K pc L (.int x :: st) μ := by
  obtain ⟨p, e, s, m, args, below, meth, c, hx, hb, hml, hown, hk, hr, hlk, hK⟩ := h
  refine (hK _ _ _ _).mpr (fun H locs ls hP hS hL => ?_)
  exact lv_ineg hx hb hd  ((hK _ _ _ _).mp k H locs ls hP hS hL)
theorem zr_ladd {l : Launch} {g : gG} {cc : ByteArray} {own : String} {nL : Nat} {ret : Option FieldType} {R : Room} {r : Option Value} {μ' : gM} {K : gKt} (h : gR l g cc own nL ret R r μ' K) {pc : Nat} {L : List (Option Value)} {st : List Value} {μ : gM} {x y : Int64} (hd : decode cc pc = .ok (.ladd, 1))  (k : K (pc + 1) L (.long (x + y) :: st) μ) : K pc L (.long y :: .long x :: st) μ := by
  obtain ⟨p, e, s, m, args, below, meth, c, hx, hb, hml, hown, hk, hr, hlk, hK⟩ := h
  refine (hK _ _ _ _).mpr (fun H locs ls hP hS hL => ?_)
  exact lv_ladd hx hb hd  ((hK _ _ _ _).mp k H locs ls hP hS hL)
theorem zr_lmul {l : Launch} {g : gG} {cc : ByteArray} {own : String} {nL : Nat} {ret : Option FieldType} {R : Room} {r : Option Value} {μ' : gM} {K : gKt} (h : gR l g cc own nL ret R r μ' K) {pc : Nat} {L : List (Option Value)} {st : List Value} {μ : gM} {x y : Int64} (hd : decode cc pc = .ok (.lmul, 1))  (k : K (pc + 1) L (.long (x * y) :: st) μ) : K pc L (.long y :: .long x :: st) μ := by
  obtain ⟨p, e, s, m, args, below, meth, c, hx, hb, hml, hown, hk, hr, hlk, hK⟩ := h
  refine (hK _ _ _ _).mpr (fun H locs ls hP hS hL => ?_)
  exact lv_lmul hx hb hd  ((hK _ _ _ _).mp k H locs ls hP hS hL)
theorem zr_land {l : Launch} {g : gG} {cc : ByteArray} {own : String} {nL : Nat} {ret : Option FieldType} {R : Room} {r : Option Value} {μ' : gM} {K : gKt} (h : gR l g cc own nL ret R r μ' K) {pc : Nat} {L : List (Option Value)} {st : List Value} {μ : gM} {x y : Int64} (hd : decode cc pc = .ok (.land, 1))  (k : K (pc + 1) L (.long (x &&& y) :: st) μ) : K pc L (.long y :: .long x :: st) μ := by
  obtain ⟨p, e, s, m, args, below, meth, c, hx, hb, hml, hown, hk, hr, hlk, hK⟩ := h
  refine (hK _ _ _ _).mpr (fun H locs ls hP hS hL => ?_)
  exact lv_land hx hb hd  ((hK _ _ _ _).mp k H locs ls hP hS hL)
theorem zr_lsub {l : Launch} {g : gG} {cc : ByteArray} {own : String} {nL : Nat} {ret : Option FieldType} {R : Room} {r : Option Value} {μ' : gM} {K : gKt} (h : gR l g cc own nL ret R r μ' K) {pc : Nat} {L : List (Option Value)} {st : List Value} {μ : gM} {x y : Int64} (hd : decode cc pc = .ok (.lsub, 1))  (k : K (pc + 1) L (.long (x - y) :: st) μ) : K pc L (.long y :: .long x :: st) μ := by
  obtain ⟨p, e, s, m, args, below, meth, c, hx, hb, hml, hown, hk, hr, hlk, hK⟩ := h
  refine (hK _ _ _ _).mpr (fun H locs ls hP hS hL => ?_)
  exact lv_lsub hx hb hd  ((hK _ _ _ _).mp k H locs ls hP hS hL)
theorem zr_ldiv {l : Launch} {g : gG} {cc : ByteArray} {own : String} {nL : Nat} {ret : Option FieldType} {R : Room} {r : Option Value} {μ' : gM} {K : gKt} (h : gR l g cc own nL ret R r μ' K) {pc : Nat} {L : List (Option Value)} {st : List Value} {μ : gM} {x y : Int64} (hd : decode cc pc = .ok (.ldiv, 1)) (hne : ¬ y = 0) (k : K (pc + 1) L (.long (x / y) :: st) μ) : K pc L (.long y :: .long x :: st) μ := by
  obtain ⟨p, e, s, m, args, below, meth, c, hx, hb, hml, hown, hk, hr, hlk, hK⟩ := h
  refine (hK _ _ _ _).mpr (fun H locs ls hP hS hL => ?_)
  exact lv_ldiv hx hb hd hne ((hK _ _ _ _).mp k H locs ls hP hS hL)
theorem zr_lrem {l : Launch} {g : gG} {cc : ByteArray} {own : String} {nL : Nat} {ret : Option FieldType} {R : Room} {r : Option Value} {μ' : gM} {K : gKt} (h : gR l g cc own nL ret R r μ' K) {pc : Nat} {L : List (Option Value)} {st : List Value} {μ : gM} {x y : Int64} (hd : decode cc pc = .ok (.lrem, 1)) (hne : ¬ y = 0) (k : K (pc + 1) L (.long (x - x / y * y) :: st) μ) : K pc L (.long y :: .long x :: st) μ := by
  obtain ⟨p, e, s, m, args, below, meth, c, hx, hb, hml, hown, hk, hr, hlk, hK⟩ := h
  refine (hK _ _ _ _).mpr (fun H locs ls hP hS hL => ?_)
  exact lv_lrem hx hb hd hne ((hK _ _ _ _).mp k H locs ls hP hS hL)
theorem zr_i2l {l : Launch} {g : gG} {cc : ByteArray} {own : String} {nL : Nat} {ret : Option FieldType} {R : Room} {r : Option Value} {μ' : gM} {K : gKt} (h : gR l g cc own nL ret R r μ' K) {pc : Nat} {L : List (Option Value)} {st : List Value} {μ : gM} {x : Int32} (hd : decode cc pc = .ok (.i2l, 1))  (k : K (pc + 1) L (.long x.toInt64 :: st) μ) : K pc L (.int x :: st) μ := by
  obtain ⟨p, e, s, m, args, below, meth, c, hx, hb, hml, hown, hk, hr, hlk, hK⟩ := h
  refine (hK _ _ _ _).mpr (fun H locs ls hP hS hL => ?_)
  exact lv_i2l hx hb hd rfl ((hK _ _ _ _).mp k H locs ls hP hS hL)
theorem zr_l2i {l : Launch} {g : gG} {cc : ByteArray} {own : String} {nL : Nat} {ret : Option FieldType} {R : Room} {r : Option Value} {μ' : gM} {K : gKt} (h : gR l g cc own nL ret R r μ' K) {pc : Nat} {L : List (Option Value)} {st : List Value} {μ : gM} {x : Int64} (hd : decode cc pc = .ok (.l2i, 1))  (k : K (pc + 1) L (.int x.toInt32 :: st) μ) : K pc L (.long x :: st) μ := by
  obtain ⟨p, e, s, m, args, below, meth, c, hx, hb, hml, hown, hk, hr, hlk, hK⟩ := h
  refine (hK _ _ _ _).mpr (fun H locs ls hP hS hL => ?_)
  exact lv_l2i hx hb hd rfl ((hK _ _ _ _).mp k H locs ls hP hS hL)
theorem zr_i2b {l : Launch} {g : gG} {cc : ByteArray} {own : String} {nL : Nat} {ret : Option FieldType} {R : Room} {r : Option Value} {μ' : gM} {K : gKt} (h : gR l g cc own nL ret R r μ' K) {pc : Nat} {L : List (Option Value)} {st : List Value} {μ : gM} {x : Int32} (hd : decode cc pc = .ok (.i2b, 1))  (k : K (pc + 1) L (.int x.toInt8.toInt32 :: st) μ) : K pc L (.int x :: st) μ := by
  obtain ⟨p, e, s, m, args, below, meth, c, hx, hb, hml, hown, hk, hr, hlk, hK⟩ := h
  refine (hK _ _ _ _).mpr (fun H locs ls hP hS hL => ?_)
  exact lv_i2b hx hb hd rfl ((hK _ _ _ _).mp k H locs ls hP hS hL)
theorem zr_dup {l : Launch} {g : gG} {cc : ByteArray} {own : String} {nL : Nat} {ret : Option FieldType} {R : Room} {r : Option Value} {μ' : gM} {K : gKt} (h : gR l g cc own nL ret R r μ' K) {pc : Nat} {L : List (Option Value)} {st : List Value} {μ : gM} {va : Value} (hd : decode cc pc = .ok (.dup, 1)) (hc : va.category = 1) (k : K (pc + 1) L (va :: va :: st) μ) : K pc L (va :: st) μ := by
  obtain ⟨p, e, s, m, args, below, meth, c, hx, hb, hml, hown, hk, hr, hlk, hK⟩ := h
  refine (hK _ _ _ _).mpr (fun H locs ls hP hS hL => ?_)
  exact lv_dup hx hb hd hc ((hK _ _ _ _).mp k H locs ls hP hS hL)
theorem zr_pop {l : Launch} {g : gG} {cc : ByteArray} {own : String} {nL : Nat} {ret : Option FieldType} {R : Room} {r : Option Value} {μ' : gM} {K : gKt} (h : gR l g cc own nL ret R r μ' K) {pc : Nat} {L : List (Option Value)} {st : List Value} {μ : gM} {va : Value} (hd : decode cc pc = .ok (.pop, 1)) (hc : va.category = 1) (k : K (pc + 1) L (st) μ) : K pc L (va :: st) μ := by
  obtain ⟨p, e, s, m, args, below, meth, c, hx, hb, hml, hown, hk, hr, hlk, hK⟩ := h
  refine (hK _ _ _ _).mpr (fun H locs ls hP hS hL => ?_)
  exact lv_pop hx hb hd hc ((hK _ _ _ _).mp k H locs ls hP hS hL)
theorem zr_dup2 {l : Launch} {g : gG} {cc : ByteArray} {own : String} {nL : Nat} {ret : Option FieldType} {R : Room} {r : Option Value} {μ' : gM} {K : gKt} (h : gR l g cc own nL ret R r μ' K) {pc : Nat} {L : List (Option Value)} {st : List Value} {μ : gM} {va vb : Value} (hd : decode cc pc = .ok (.dup2, 1)) (hc : va.category = 1) (hc2 : vb.category = 1) (k : K (pc + 1) L (va :: vb :: va :: vb :: st) μ) : K pc L (va :: vb :: st) μ := by
  obtain ⟨p, e, s, m, args, below, meth, c, hx, hb, hml, hown, hk, hr, hlk, hK⟩ := h
  refine (hK _ _ _ _).mpr (fun H locs ls hP hS hL => ?_)
  exact lv_dup2_11 hx hb hd hc hc2 ((hK _ _ _ _).mp k H locs ls hP hS hL)
theorem zr_iload_n {l : Launch} {g : gG} {cc : ByteArray} {own : String} {nL : Nat} {ret : Option FieldType} {R : Room} {r : Option Value} {μ' : gM} {K : gKt} (h : gR l g cc own nL ret R r μ' K) {pc : Nat} {L : List (Option Value)} {st : List Value} {μ : gM} {q : Fin 4} {i : Nat} {x : Int32} (hd : decode cc pc = .ok (.iload_n q, 1)) (hi : (q : Nat) = i) (hl : L[i]? = some (some (.int x))) (k : K (pc + 1) L (.int x :: st) μ) : K pc L st μ := by
  obtain ⟨p, e, s, m, args, below, meth, c, hx, hb, hml, hown, hk, hr, hlk, hK⟩ := h
  refine (hK _ _ _ _).mpr (fun H locs ls hP hS hL => ?_)
  exact lv_iload_n hx hb hd hi (hL.2.2 _ _ hl) ((hK _ _ _ _).mp k H locs ls hP hS hL)
theorem zr_iload {l : Launch} {g : gG} {cc : ByteArray} {own : String} {nL : Nat} {ret : Option FieldType} {R : Room} {r : Option Value} {μ' : gM} {K : gKt} (h : gR l g cc own nL ret R r μ' K) {pc : Nat} {L : List (Option Value)} {st : List Value} {μ : gM} {i : Nat} {x : Int32} (hd : decode cc pc = .ok (.iload i, 2)) (hl : L[i]? = some (some (.int x))) (k : K (pc + 2) L (.int x :: st) μ) : K pc L st μ := by
  obtain ⟨p, e, s, m, args, below, meth, c, hx, hb, hml, hown, hk, hr, hlk, hK⟩ := h
  refine (hK _ _ _ _).mpr (fun H locs ls hP hS hL => ?_)
  exact lv_iload hx hb hd (hL.2.2 _ _ hl) ((hK _ _ _ _).mp k H locs ls hP hS hL)
theorem zr_aload_n {l : Launch} {g : gG} {cc : ByteArray} {own : String} {nL : Nat} {ret : Option FieldType} {R : Room} {r : Option Value} {μ' : gM} {K : gKt} (h : gR l g cc own nL ret R r μ' K) {pc : Nat} {L : List (Option Value)} {st : List Value} {μ : gM} {q : Fin 4} {i : Nat} {x : Nat} (hd : decode cc pc = .ok (.aload_n q, 1)) (hi : (q : Nat) = i) (hl : L[i]? = some (some (.ref x))) (k : K (pc + 1) L (.ref x :: st) μ) : K pc L st μ := by
  obtain ⟨p, e, s, m, args, below, meth, c, hx, hb, hml, hown, hk, hr, hlk, hK⟩ := h
  refine (hK _ _ _ _).mpr (fun H locs ls hP hS hL => ?_)
  exact lv_aload_n hx hb hd hi (hL.2.2 _ _ hl) ((hK _ _ _ _).mp k H locs ls hP hS hL)
theorem zr_aload {l : Launch} {g : gG} {cc : ByteArray} {own : String} {nL : Nat} {ret : Option FieldType} {R : Room} {r : Option Value} {μ' : gM} {K : gKt} (h : gR l g cc own nL ret R r μ' K) {pc : Nat} {L : List (Option Value)} {st : List Value} {μ : gM} {i : Nat} {x : Nat} (hd : decode cc pc = .ok (.aload i, 2)) (hl : L[i]? = some (some (.ref x))) (k : K (pc + 2) L (.ref x :: st) μ) : K pc L st μ := by
  obtain ⟨p, e, s, m, args, below, meth, c, hx, hb, hml, hown, hk, hr, hlk, hK⟩ := h
  refine (hK _ _ _ _).mpr (fun H locs ls hP hS hL => ?_)
  exact lv_aload hx hb hd (hL.2.2 _ _ hl) ((hK _ _ _ _).mp k H locs ls hP hS hL)
theorem zr_lload_n {l : Launch} {g : gG} {cc : ByteArray} {own : String} {nL : Nat} {ret : Option FieldType} {R : Room} {r : Option Value} {μ' : gM} {K : gKt} (h : gR l g cc own nL ret R r μ' K) {pc : Nat} {L : List (Option Value)} {st : List Value} {μ : gM} {q : Fin 4} {i : Nat} {x : Int64} (hd : decode cc pc = .ok (.lload_n q, 1)) (hi : (q : Nat) = i) (hl : L[i]? = some (some (.long x))) (k : K (pc + 1) L (.long x :: st) μ) : K pc L st μ := by
  obtain ⟨p, e, s, m, args, below, meth, c, hx, hb, hml, hown, hk, hr, hlk, hK⟩ := h
  refine (hK _ _ _ _).mpr (fun H locs ls hP hS hL => ?_)
  exact lv_lload_n hx hb hd hi (hL.2.2 _ _ hl) ((hK _ _ _ _).mp k H locs ls hP hS hL)
theorem zr_lload {l : Launch} {g : gG} {cc : ByteArray} {own : String} {nL : Nat} {ret : Option FieldType} {R : Room} {r : Option Value} {μ' : gM} {K : gKt} (h : gR l g cc own nL ret R r μ' K) {pc : Nat} {L : List (Option Value)} {st : List Value} {μ : gM} {i : Nat} {x : Int64} (hd : decode cc pc = .ok (.lload i, 2)) (hl : L[i]? = some (some (.long x))) (k : K (pc + 2) L (.long x :: st) μ) : K pc L st μ := by
  obtain ⟨p, e, s, m, args, below, meth, c, hx, hb, hml, hown, hk, hr, hlk, hK⟩ := h
  refine (hK _ _ _ _).mpr (fun H locs ls hP hS hL => ?_)
  exact lv_lload hx hb hd (hL.2.2 _ _ hl) ((hK _ _ _ _).mp k H locs ls hP hS hL)
theorem zr_istore_n {l : Launch} {g : gG} {cc : ByteArray} {own : String} {nL : Nat} {ret : Option FieldType} {R : Room} {r : Option Value} {μ' : gM} {K : gKt} (h : gR l g cc own nL ret R r μ' K) {pc : Nat} {L : List (Option Value)} {st : List Value} {μ : gM} {q : Fin 4} {i : Nat} {x : Int32} (hd : decode cc pc = .ok (.istore_n q, 1)) (hi : (q : Nat) = i) (hn : i < nL) (ho : gOk L i = true) (k : K (pc + 1) (L.set i (some (.int x))) st μ) : K pc L (.int x :: st) μ := by
  obtain ⟨p, e, s, m, args, below, meth, c, hx, hb, hml, hown, hk, hr, hlk, hK⟩ := h
  refine (hK _ _ _ _).mpr (fun H locs ls hP hS hL => ?_)
  exact lv_istore_n hx hb hd hi hL.has hn rfl (fun ls' h' => (hK _ _ _ _).mp k H locs ls' hP hS (gL.put h' ho))
theorem zr_istore {l : Launch} {g : gG} {cc : ByteArray} {own : String} {nL : Nat} {ret : Option FieldType} {R : Room} {r : Option Value} {μ' : gM} {K : gKt} (h : gR l g cc own nL ret R r μ' K) {pc : Nat} {L : List (Option Value)} {st : List Value} {μ : gM} {i : Nat} {x : Int32} (hd : decode cc pc = .ok (.istore i, 2)) (hn : i < nL) (ho : gOk L i = true) (k : K (pc + 2) (L.set i (some (.int x))) st μ) : K pc L (.int x :: st) μ := by
  obtain ⟨p, e, s, m, args, below, meth, c, hx, hb, hml, hown, hk, hr, hlk, hK⟩ := h
  refine (hK _ _ _ _).mpr (fun H locs ls hP hS hL => ?_)
  exact lv_istore hx hb hd hL.has hn rfl (fun ls' h' => (hK _ _ _ _).mp k H locs ls' hP hS (gL.put h' ho))
theorem zr_iinc {l : Launch} {g : gG} {cc : ByteArray} {own : String} {nL : Nat} {ret : Option FieldType} {R : Room} {r : Option Value} {μ' : gM} {K : gKt} (h : gR l g cc own nL ret R r μ' K) {pc : Nat} {L : List (Option Value)} {st : List Value} {μ : gM} {i : Nat} {n : Int} {x : Int32} (hd : decode cc pc = .ok (.iinc i n, 3)) (hl : L[i]? = some (some (.int x))) (hn : i < nL) (ho : gOk L i = true) (k : K (pc + 3) (L.set i (some (.int (x + Int32.ofInt n)))) st μ) : K pc L st μ := by
  obtain ⟨p, e, s, m, args, below, meth, c, hx, hb, hml, hown, hk, hr, hlk, hK⟩ := h
  refine (hK _ _ _ _).mpr (fun H locs ls hP hS hL => ?_)
  obtain ⟨q, hq⟩ := List.getElem?_of_mem (gAs_mem.mpr hl)
  exact lv_iinc hx hb hd hL.has hq rfl hn rfl (fun ls' h' => (hK _ _ _ _).mp k H locs ls' hP hS (gL.put h' ho))
theorem zr_goto {l : Launch} {g : gG} {cc : ByteArray} {own : String} {nL : Nat} {ret : Option FieldType} {R : Room} {r : Option Value} {μ' : gM} {K : gKt} (h : gR l g cc own nL ret R r μ' K) {pc : Nat} {L : List (Option Value)} {st : List Value} {μ : gM} {off : Int} {tgt : Nat} (hd : decode cc pc = .ok (.goto off, 3)) (ht : (pc : Int) + off = (tgt : Int)) (k : K tgt L st μ) : K pc L st μ := by
  obtain ⟨p, e, s, m, args, below, meth, c, hx, hb, hml, hown, hk, hr, hlk, hK⟩ := h
  refine (hK _ _ _ _).mpr (fun H locs ls hP hS hL => ?_)
  exact lv_goto hx hb hd ht ((hK _ _ _ _).mp k H locs ls hP hS hL)
theorem zr_if_eq {l : Launch} {g : gG} {cc : ByteArray} {own : String} {nL : Nat} {ret : Option FieldType} {R : Room} {r : Option Value} {μ' : gM} {K : gKt} (h : gR l g cc own nL ret R r μ' K) {pc : Nat} {L : List (Option Value)} {st : List Value} {μ : gM} {x : Int32} {off : Int} {tgt : Nat} (hd : decode cc pc = .ok (.ifCond .eq off, 3)) (ht : (pc : Int) + off = (tgt : Int)) (kt : x = 0 → K tgt L st μ) (kf : ¬ x = 0 → K (pc + 3) L st μ) : K pc L (.int x :: st) μ := by
  obtain ⟨p, e, s, m, args, below, meth, c, hx, hb, hml, hown, hk, hr, hlk, hK⟩ := h
  refine (hK _ _ _ _).mpr (fun H locs ls hP hS hL => ?_)
  exact lv_if_eq hx hb hd ht (fun q => (hK _ _ _ _).mp (kt q) H locs ls hP hS hL) (fun q => (hK _ _ _ _).mp (kf q) H locs ls hP hS hL)
theorem zr_icmp_eq {l : Launch} {g : gG} {cc : ByteArray} {own : String} {nL : Nat} {ret : Option FieldType} {R : Room} {r : Option Value} {μ' : gM} {K : gKt} (h : gR l g cc own nL ret R r μ' K) {pc : Nat} {L : List (Option Value)} {st : List Value} {μ : gM} {x y : Int32} {off : Int} {tgt : Nat} (hd : decode cc pc = .ok (.if_icmp .eq off, 3)) (ht : (pc : Int) + off = (tgt : Int)) (kt : x = y → K tgt L st μ) (kf : ¬ x = y → K (pc + 3) L st μ) : K pc L (.int y :: .int x :: st) μ := by
  obtain ⟨p, e, s, m, args, below, meth, c, hx, hb, hml, hown, hk, hr, hlk, hK⟩ := h
  refine (hK _ _ _ _).mpr (fun H locs ls hP hS hL => ?_)
  exact lv_icmp_eq hx hb hd ht (fun q => (hK _ _ _ _).mp (kt q) H locs ls hP hS hL) (fun q => (hK _ _ _ _).mp (kf q) H locs ls hP hS hL)
theorem zr_if_ne {l : Launch} {g : gG} {cc : ByteArray} {own : String} {nL : Nat} {ret : Option FieldType} {R : Room} {r : Option Value} {μ' : gM} {K : gKt} (h : gR l g cc own nL ret R r μ' K) {pc : Nat} {L : List (Option Value)} {st : List Value} {μ : gM} {x : Int32} {off : Int} {tgt : Nat} (hd : decode cc pc = .ok (.ifCond .ne off, 3)) (ht : (pc : Int) + off = (tgt : Int)) (kt : ¬ x = 0 → K tgt L st μ) (kf : x = 0 → K (pc + 3) L st μ) : K pc L (.int x :: st) μ := by
  obtain ⟨p, e, s, m, args, below, meth, c, hx, hb, hml, hown, hk, hr, hlk, hK⟩ := h
  refine (hK _ _ _ _).mpr (fun H locs ls hP hS hL => ?_)
  exact lv_if_ne hx hb hd ht (fun q => (hK _ _ _ _).mp (kt q) H locs ls hP hS hL) (fun q => (hK _ _ _ _).mp (kf q) H locs ls hP hS hL)
theorem zr_icmp_ne {l : Launch} {g : gG} {cc : ByteArray} {own : String} {nL : Nat} {ret : Option FieldType} {R : Room} {r : Option Value} {μ' : gM} {K : gKt} (h : gR l g cc own nL ret R r μ' K) {pc : Nat} {L : List (Option Value)} {st : List Value} {μ : gM} {x y : Int32} {off : Int} {tgt : Nat} (hd : decode cc pc = .ok (.if_icmp .ne off, 3)) (ht : (pc : Int) + off = (tgt : Int)) (kt : ¬ x = y → K tgt L st μ) (kf : x = y → K (pc + 3) L st μ) : K pc L (.int y :: .int x :: st) μ := by
  obtain ⟨p, e, s, m, args, below, meth, c, hx, hb, hml, hown, hk, hr, hlk, hK⟩ := h
  refine (hK _ _ _ _).mpr (fun H locs ls hP hS hL => ?_)
  exact lv_icmp_ne hx hb hd ht (fun q => (hK _ _ _ _).mp (kt q) H locs ls hP hS hL) (fun q => (hK _ _ _ _).mp (kf q) H locs ls hP hS hL)
theorem zr_if_lt {l : Launch} {g : gG} {cc : ByteArray} {own : String} {nL : Nat} {ret : Option FieldType} {R : Room} {r : Option Value} {μ' : gM} {K : gKt} (h : gR l g cc own nL ret R r μ' K) {pc : Nat} {L : List (Option Value)} {st : List Value} {μ : gM} {x : Int32} {off : Int} {tgt : Nat} (hd : decode cc pc = .ok (.ifCond .lt off, 3)) (ht : (pc : Int) + off = (tgt : Int)) (kt : x < 0 → K tgt L st μ) (kf : ¬ x < 0 → K (pc + 3) L st μ) : K pc L (.int x :: st) μ := by
  obtain ⟨p, e, s, m, args, below, meth, c, hx, hb, hml, hown, hk, hr, hlk, hK⟩ := h
  refine (hK _ _ _ _).mpr (fun H locs ls hP hS hL => ?_)
  exact lv_if_lt hx hb hd ht (fun q => (hK _ _ _ _).mp (kt q) H locs ls hP hS hL) (fun q => (hK _ _ _ _).mp (kf q) H locs ls hP hS hL)
theorem zr_icmp_lt {l : Launch} {g : gG} {cc : ByteArray} {own : String} {nL : Nat} {ret : Option FieldType} {R : Room} {r : Option Value} {μ' : gM} {K : gKt} (h : gR l g cc own nL ret R r μ' K) {pc : Nat} {L : List (Option Value)} {st : List Value} {μ : gM} {x y : Int32} {off : Int} {tgt : Nat} (hd : decode cc pc = .ok (.if_icmp .lt off, 3)) (ht : (pc : Int) + off = (tgt : Int)) (kt : x < y → K tgt L st μ) (kf : ¬ x < y → K (pc + 3) L st μ) : K pc L (.int y :: .int x :: st) μ := by
  obtain ⟨p, e, s, m, args, below, meth, c, hx, hb, hml, hown, hk, hr, hlk, hK⟩ := h
  refine (hK _ _ _ _).mpr (fun H locs ls hP hS hL => ?_)
  exact lv_icmp_lt hx hb hd ht (fun q => (hK _ _ _ _).mp (kt q) H locs ls hP hS hL) (fun q => (hK _ _ _ _).mp (kf q) H locs ls hP hS hL)
theorem zr_if_ge {l : Launch} {g : gG} {cc : ByteArray} {own : String} {nL : Nat} {ret : Option FieldType} {R : Room} {r : Option Value} {μ' : gM} {K : gKt} (h : gR l g cc own nL ret R r μ' K) {pc : Nat} {L : List (Option Value)} {st : List Value} {μ : gM} {x : Int32} {off : Int} {tgt : Nat} (hd : decode cc pc = .ok (.ifCond .ge off, 3)) (ht : (pc : Int) + off = (tgt : Int)) (kt : 0 ≤ x → K tgt L st μ) (kf : ¬ 0 ≤ x → K (pc + 3) L st μ) : K pc L (.int x :: st) μ := by
  obtain ⟨p, e, s, m, args, below, meth, c, hx, hb, hml, hown, hk, hr, hlk, hK⟩ := h
  refine (hK _ _ _ _).mpr (fun H locs ls hP hS hL => ?_)
  exact lv_if_ge hx hb hd ht (fun q => (hK _ _ _ _).mp (kt q) H locs ls hP hS hL) (fun q => (hK _ _ _ _).mp (kf q) H locs ls hP hS hL)
theorem zr_icmp_ge {l : Launch} {g : gG} {cc : ByteArray} {own : String} {nL : Nat} {ret : Option FieldType} {R : Room} {r : Option Value} {μ' : gM} {K : gKt} (h : gR l g cc own nL ret R r μ' K) {pc : Nat} {L : List (Option Value)} {st : List Value} {μ : gM} {x y : Int32} {off : Int} {tgt : Nat} (hd : decode cc pc = .ok (.if_icmp .ge off, 3)) (ht : (pc : Int) + off = (tgt : Int)) (kt : y ≤ x → K tgt L st μ) (kf : ¬ y ≤ x → K (pc + 3) L st μ) : K pc L (.int y :: .int x :: st) μ := by
  obtain ⟨p, e, s, m, args, below, meth, c, hx, hb, hml, hown, hk, hr, hlk, hK⟩ := h
  refine (hK _ _ _ _).mpr (fun H locs ls hP hS hL => ?_)
  exact lv_icmp_ge hx hb hd ht (fun q => (hK _ _ _ _).mp (kt q) H locs ls hP hS hL) (fun q => (hK _ _ _ _).mp (kf q) H locs ls hP hS hL)
theorem zr_if_gt {l : Launch} {g : gG} {cc : ByteArray} {own : String} {nL : Nat} {ret : Option FieldType} {R : Room} {r : Option Value} {μ' : gM} {K : gKt} (h : gR l g cc own nL ret R r μ' K) {pc : Nat} {L : List (Option Value)} {st : List Value} {μ : gM} {x : Int32} {off : Int} {tgt : Nat} (hd : decode cc pc = .ok (.ifCond .gt off, 3)) (ht : (pc : Int) + off = (tgt : Int)) (kt : 0 < x → K tgt L st μ) (kf : ¬ 0 < x → K (pc + 3) L st μ) : K pc L (.int x :: st) μ := by
  obtain ⟨p, e, s, m, args, below, meth, c, hx, hb, hml, hown, hk, hr, hlk, hK⟩ := h
  refine (hK _ _ _ _).mpr (fun H locs ls hP hS hL => ?_)
  exact lv_if_gt hx hb hd ht (fun q => (hK _ _ _ _).mp (kt q) H locs ls hP hS hL) (fun q => (hK _ _ _ _).mp (kf q) H locs ls hP hS hL)
theorem zr_icmp_gt {l : Launch} {g : gG} {cc : ByteArray} {own : String} {nL : Nat} {ret : Option FieldType} {R : Room} {r : Option Value} {μ' : gM} {K : gKt} (h : gR l g cc own nL ret R r μ' K) {pc : Nat} {L : List (Option Value)} {st : List Value} {μ : gM} {x y : Int32} {off : Int} {tgt : Nat} (hd : decode cc pc = .ok (.if_icmp .gt off, 3)) (ht : (pc : Int) + off = (tgt : Int)) (kt : y < x → K tgt L st μ) (kf : ¬ y < x → K (pc + 3) L st μ) : K pc L (.int y :: .int x :: st) μ := by
  obtain ⟨p, e, s, m, args, below, meth, c, hx, hb, hml, hown, hk, hr, hlk, hK⟩ := h
  refine (hK _ _ _ _).mpr (fun H locs ls hP hS hL => ?_)
  exact lv_icmp_gt hx hb hd ht (fun q => (hK _ _ _ _).mp (kt q) H locs ls hP hS hL) (fun q => (hK _ _ _ _).mp (kf q) H locs ls hP hS hL)
theorem zr_if_le {l : Launch} {g : gG} {cc : ByteArray} {own : String} {nL : Nat} {ret : Option FieldType} {R : Room} {r : Option Value} {μ' : gM} {K : gKt} (h : gR l g cc own nL ret R r μ' K) {pc : Nat} {L : List (Option Value)} {st : List Value} {μ : gM} {x : Int32} {off : Int} {tgt : Nat} (hd : decode cc pc = .ok (.ifCond .le off, 3)) (ht : (pc : Int) + off = (tgt : Int)) (kt : x ≤ 0 → K tgt L st μ) (kf : ¬ x ≤ 0 → K (pc + 3) L st μ) : K pc L (.int x :: st) μ := by
  obtain ⟨p, e, s, m, args, below, meth, c, hx, hb, hml, hown, hk, hr, hlk, hK⟩ := h
  refine (hK _ _ _ _).mpr (fun H locs ls hP hS hL => ?_)
  exact lv_if_le hx hb hd ht (fun q => (hK _ _ _ _).mp (kt q) H locs ls hP hS hL) (fun q => (hK _ _ _ _).mp (kf q) H locs ls hP hS hL)
theorem zr_icmp_le {l : Launch} {g : gG} {cc : ByteArray} {own : String} {nL : Nat} {ret : Option FieldType} {R : Room} {r : Option Value} {μ' : gM} {K : gKt} (h : gR l g cc own nL ret R r μ' K) {pc : Nat} {L : List (Option Value)} {st : List Value} {μ : gM} {x y : Int32} {off : Int} {tgt : Nat} (hd : decode cc pc = .ok (.if_icmp .le off, 3)) (ht : (pc : Int) + off = (tgt : Int)) (kt : x ≤ y → K tgt L st μ) (kf : ¬ x ≤ y → K (pc + 3) L st μ) : K pc L (.int y :: .int x :: st) μ := by
  obtain ⟨p, e, s, m, args, below, meth, c, hx, hb, hml, hown, hk, hr, hlk, hK⟩ := h
  refine (hK _ _ _ _).mpr (fun H locs ls hP hS hL => ?_)
  exact lv_icmp_le hx hb hd ht (fun q => (hK _ _ _ _).mp (kt q) H locs ls hP hS hL) (fun q => (hK _ _ _ _).mp (kf q) H locs ls hP hS hL)
theorem zr_lcmp {l : Launch} {g : gG} {cc : ByteArray} {own : String} {nL : Nat} {ret : Option FieldType} {R : Room} {r : Option Value} {μ' : gM} {K : gKt} (h : gR l g cc own nL ret R r μ' K) {pc : Nat} {L : List (Option Value)} {st : List Value} {μ : gM} {x y : Int64} (hd : decode cc pc = .ok (.lcmp, 1)) (k : K (pc + 1) L (.int (lg_cmp x y) :: st) μ) : K pc L (.long y :: .long x :: st) μ := by
  obtain ⟨p, e, s, m, args, below, meth, c, hx, hb, hml, hown, hk, hr, hlk, hK⟩ := h
  refine (hK _ _ _ _).mpr (fun H locs ls hP hS hL => ?_)
  exact W.lcmp hx hb hd ((hK _ _ _ _).mp k H locs ls hP hS hL)
theorem zr_ldc {l : Launch} {g : gG} {cc : ByteArray} {own : String} {nL : Nat} {ret : Option FieldType} {R : Room} {r : Option Value} {μ' : gM} {K : gKt} (h : gR l g cc own nL ret R r μ' K) {pc : Nat} {L : List (Option Value)} {st : List Value} {μ : gM} {idx : Nat} {v : Int32} (hw : Cond.constant own idx v ∈ gwL) (hd : decode cc pc = .ok (.ldc idx, 2)) (k : K (pc + 2) L (.int v :: st) μ) : K pc L st μ := by
  obtain ⟨p, e, s, m, args, below, meth, c, hx, hb, hml, hown, hk, hr, hlk, hK⟩ := h
  refine (hK _ _ _ _).mpr (fun H locs ls hP hS hL => ?_)
  exact lv_ldc hx hb hown (hk.2.use hw) hd ((hK _ _ _ _).mp k H locs ls hP hS hL)
theorem zr_ldc2 {l : Launch} {g : gG} {cc : ByteArray} {own : String} {nL : Nat} {ret : Option FieldType} {R : Room} {r : Option Value} {μ' : gM} {K : gKt} (h : gR l g cc own nL ret R r μ' K) {pc : Nat} {L : List (Option Value)} {st : List Value} {μ : gM} {idx : Nat} {v : Int64} (hw : Cond.constantLong own idx v ∈ gwL) (hd : decode cc pc = .ok (.ldc2_w idx, 3)) (k : K (pc + 3) L (.long v :: st) μ) : K pc L st μ := by
  obtain ⟨p, e, s, m, args, below, meth, c, hx, hb, hml, hown, hk, hr, hlk, hK⟩ := h
  refine (hK _ _ _ _).mpr (fun H locs ls hP hS hL => ?_)
  exact lv_ldc2 hx hb hown (hk.2.use hw) hd ((hK _ _ _ _).mp k H locs ls hP hS hL)
theorem zr_lstore_n {l : Launch} {g : gG} {cc : ByteArray} {own : String} {nL : Nat} {ret : Option FieldType} {R : Room} {r : Option Value} {μ' : gM} {K : gKt} (h : gR l g cc own nL ret R r μ' K) {pc : Nat} {L : List (Option Value)} {st : List Value} {μ : gM} {q : Fin 4} {i : Nat} {x : Int64} (hd : decode cc pc = .ok (.lstore_n q, 1)) (hi : (q : Nat) = i) (hn : i + 1 < nL) (ho : gOk L i = true) (k : K (pc + 1) ((L.set i (some (.long x))).set (i + 1) none) st μ) : K pc L (.long x :: st) μ := by
  obtain ⟨p, e, s, m, args, below, meth, c, hx, hb, hml, hown, hk, hr, hlk, hK⟩ := h
  refine (hK _ _ _ _).mpr (fun H locs ls hP hS hL => ?_)
  refine lv_lstore_n hx hb hd hi hL.has hn rfl (fun ls' h' => (hK _ _ _ _).mp k H locs ls' hP hS ⟨h'.1, h'.2.1, fun j w hj => ?_⟩)
  rw [List.getElem?_set] at hj
  by_cases e1 : i + 1 = j
  · rw [if_pos e1] at hj
    split at hj <;> cases hj
  · rw [if_neg e1, List.getElem?_set] at hj
    by_cases e : i = j
    · subst e
      rw [if_pos rfl] at hj
      split at hj
      · cases hj
        exact h'.2.2 (i, _) List.mem_cons_self
      · cases hj
    · rw [if_neg e] at hj
      refine h'.2.2 (j, w) (List.mem_cons_of_mem _ (List.mem_filter.mpr ⟨gAs_mem.mpr hj, ?_⟩))
      by_cases e2 : j + 1 = i
      · subst e2
        simp only [gOk, hj] at ho
        have e3 : w.category = 1 := by simpa using ho
        have e4 : ¬ j = j + 1 + 1 := by omega
        simp [e3, e4]
      · have e4 : ¬ j = i := fun q => e q.symm
        have e5 : ¬ j = i + 1 := fun q => e1 q.symm
        simp [e2, e4, e5]
theorem gEn_obj (g : gG) {a c : Nat} (f : Nat → Int32) (h : gk a = (0, c)) : gEn g a f = .inr (c, gFs g.1 c a f) := by simp [gEn, h]
theorem gEn_int (g : gG) {a n : Nat} (f : Nat → Int32) (h : gk a = (1, n)) : gEn g a f = .inl (g.2.2 0, n, .inl f) := by simp [gEn, h]
theorem gEn_byt (g : gG) {a n : Nat} (f : Nat → Int32) (h : gk a = (2, n)) : gEn g a f = .inl (g.2.2 1, n, .inl f) := by simp [gEn, h]
theorem gEn_boo (g : gG) {a n : Nat} (f : Nat → Int32) (h : gk a = (3, n)) : gEn g a f = .inl (g.2.2 2, n, .inl f) := by simp [gEn, h]
theorem gEn_ref (g : gG) {a n : Nat} (f : Nat → Int32) (h : gk a = (4, n)) : gEn g a f = .inl (g.2.2 3, n, .inr (.inr (.inr (.inr (fun i => some (g.1 + gEl a i)))))) := by simp [gEn, h]
theorem gWa (g : gG) (μ : gM) {a : Nat} {e : va_E} (hl : a < 278) (h : gEn g a (μ a) = e) : (gW g μ)[a]? = some (g.1 + a, e) := by rw [gW_at g μ hl, h]
theorem gFs_at {B c a j : Nat} (f : Nat → Int32) (h : j < gNf c) : (gFs B c a f)[j]? = some (gFd B c a f j) := by simp [gFs, h]
theorem gFs_set {B c a j : Nat} (f : Nat → Int32) (v : Int32) (hr : gRef c j a = none) : (gFs B c a f).set j (.int v) = gFs B c a (upd f j v) := by
  apply List.ext_getElem?
  intro i
  rw [List.getElem?_set]
  by_cases hi : j = i
  · subst hi
    rw [if_pos rfl]
    rcases Nat.lt_or_ge j (gNf c) with h1 | h1
    · have h2 : j < (gFs B c a f).length := by simp [gFs, h1]
      rw [if_pos h2, gFs_at _ h1]
      simp [gFd, hr, upd]
    · have h2 : ¬ j < (gFs B c a f).length := by simp [gFs]; omega
      rw [if_neg h2]
      simp [gFs, h1]
  · rw [if_neg hi]
    rcases Nat.lt_or_ge i (gNf c) with h1 | h1
    · rw [gFs_at _ h1, gFs_at _ h1]
      have e : ¬ i = j := fun q => hi q.symm
      simp [gFd, upd, e]
    · simp [gFs, h1]
theorem gNf_of {c N : Nat} {C : String} {T : u_T} (h : vwCl[c]? = some (C, T, N)) : gNf c = N := by simp [gNf, h]
theorem gUp_eq (μ : gM) (a i : Nat) (v : Int32) : gCp μ a (upd (μ a) i v) = gUp μ a i v := rfl
theorem zr_get {l : Launch} {g : gG} {cc : ByteArray} {own : String} {nL : Nat} {ret : Option FieldType} {R : Room} {r : Option Value} {μ' : gM} {K : gKt} (h : gR l g cc own nL ret R r μ' K) {pc : Nat} {L : List (Option Value)} {st : List Value} {μ : gM} {a c j idx N : Nat} {C : String} {T : u_T} {v : Value} (hk : gk a = (0, c)) (hc : vwCl[c]? = some (C, T, N)) (hj : j < N) (hT : (T j).1 = C) (hws : ∀ w ∈ u_ws C T N, w ∈ gwL) (hw : Cond.fieldLink own idx C (T j).2.1 (T j).2.2.1 ∈ gwL) (hv : gFd g.1 c a (μ a) j = v) (hd : decode cc pc = .ok (.getfield idx, 3)) (k : K (pc + 3) L (v :: st) μ) : K pc L (.ref (g.1 + a) :: st) μ := by
  obtain ⟨p, e, s, m, args, below, meth, co, hx, hb, hml, hown, hkk, hr, hlk, hK⟩ := h
  refine (hK _ _ _ _).mpr (fun H locs ls hP hS hL => ?_)
  have hlt := gk_lt hk (by decide)
  refine va_get hx hb (Ts := u_ws C T N) (fun w hw => hkk.2.use (hws w hw)) (fun _ h => h) hown hkk.1 hP a (gWa g μ hlt (gEn_obj g _ hk)) hc j hj (hkk.2.use hw) (by rw [hT]; exact fun _ h => h) (by rw [gFs_at _ (by rw [gNf_of hc]; exact hj), hv]) hd ((hK _ _ _ _).mp k H locs ls hP hS hL)
theorem zr_put {l : Launch} {g : gG} {cc : ByteArray} {own : String} {nL : Nat} {ret : Option FieldType} {R : Room} {r : Option Value} {μ' : gM} {K : gKt} (h : gR l g cc own nL ret R r μ' K) {pc : Nat} {L : List (Option Value)} {st : List Value} {μ : gM} {a c j idx N : Nat} {C : String} {T : u_T} {v : Int32} {ty : FieldType} {ty0 : Nat → FieldType} (hk : gk a = (0, c)) (hc : vwCl[c]? = some (C, T, N)) (hj : j < N) (hT : (T j).1 = C) (hws : ∀ w ∈ u_ws C T N, w ∈ gwL) (hw : Cond.fieldLink own idx C (T j).2.1 (T j).2.2.1 ∈ gwL) (hr0 : gRef c j a = none) (hty : ∀ k, k < N → parseFieldDescriptor (T k).2.2.1 = some (ty0 k)) (hnm : ∀ a, a < N → ∀ b, b < N → a ≠ b → (T a).2.1 ≠ (T b).2.1) (hfin : (T j).2.2.2 = false) (hde : ty0 j = ty) (hn : narrow ty (.int v) = .int v) (hfit : fits ty (.int v) = true) (hd : decode cc pc = .ok (.putfield idx, 3)) (k : K (pc + 3) L st (gUp μ a j v)) : K pc L (.int v :: .ref (g.1 + a) :: st) μ := by
  obtain ⟨p, e, s, m, args, below, meth, co, hx, hb, hml, hown, hkk, hr, hlk, hK⟩ := h
  refine (hK _ _ _ _).mpr (fun H locs ls hP hS hL => ?_)
  have hlt := gk_lt hk (by decide)
  refine va_put hx hb (Ts := u_ws C T N) (fun w hw => hkk.2.use (hws w hw)) (fun _ h => h) ty0 hty hnm hown hkk.1 hP (gW_D g μ) hS a (gWa g μ hlt (gEn_obj g _ hk)) hc j hj (hkk.2.use hw) (by rw [hT]; exact fun _ h => h) hfin (ty := ty) (by rw [← hde]; exact hty j hj) hn hfit (by simp [gFs, gNf_of hc, hj]) hd (fun H1 locs1 hP1 _ hS1 => ?_)
  rw [gFs_set _ _ hr0, ← gEn_obj g _ hk, gW_set g μ _ hlt] at hP1
  exact (hK _ _ _ _).mp k H1 locs1 ls hP1 hS1 hL
theorem zr_getN {l : Launch} {g : gG} {cc : ByteArray} {own : String} {nL : Nat} {ret : Option FieldType} {R : Room} {r : Option Value} {μ' : gM} {K : gKt} (h : gR l g cc own nL ret R r μ' K) {pc : Nat} {L : List (Option Value)} {st : List Value} {μ : gM} {host : String} {a c j idx N : Nat} {C : String} {T : u_T} {v : Value} (hk : gk a = (0, c)) (hc : vwCl[c]? = some (C, T, N)) (hj : j < N) (hT : (T j).1 = C) (hws : ∀ w ∈ u_ws C T N, w ∈ gwL) (hw : Cond.fieldLinkNest own idx C (T j).2.1 (T j).2.2.1 host ∈ gwL) (hv : gFd g.1 c a (μ a) j = v) (hd : decode cc pc = .ok (.getfield idx, 3)) (k : K (pc + 3) L (v :: st) μ) : K pc L (.ref (g.1 + a) :: st) μ := by
  obtain ⟨p, e, s, m, args, below, meth, co, hx, hb, hml, hown, hkk, hr, hlk, hK⟩ := h
  refine (hK _ _ _ _).mpr (fun H locs ls hP hS hL => ?_)
  have hlt := gk_lt hk (by decide)
  refine va_getN hx hb (Ts := u_ws C T N) (fun w hw => hkk.2.use (hws w hw)) (fun _ h => h) hown hkk.1 hP a (gWa g μ hlt (gEn_obj g _ hk)) hc j hj (hkk.2.use hw) (by rw [hT]; exact fun _ h => h) (by rw [gFs_at _ (by rw [gNf_of hc]; exact hj), hv]) hd ((hK _ _ _ _).mp k H locs ls hP hS hL)
theorem zr_putN {l : Launch} {g : gG} {cc : ByteArray} {own : String} {nL : Nat} {ret : Option FieldType} {R : Room} {r : Option Value} {μ' : gM} {K : gKt} (h : gR l g cc own nL ret R r μ' K) {pc : Nat} {L : List (Option Value)} {st : List Value} {μ : gM} {host : String} {a c j idx N : Nat} {C : String} {T : u_T} {v : Int32} {ty : FieldType} {ty0 : Nat → FieldType} (hk : gk a = (0, c)) (hc : vwCl[c]? = some (C, T, N)) (hj : j < N) (hT : (T j).1 = C) (hws : ∀ w ∈ u_ws C T N, w ∈ gwL) (hw : Cond.fieldLinkNest own idx C (T j).2.1 (T j).2.2.1 host ∈ gwL) (hr0 : gRef c j a = none) (hty : ∀ k, k < N → parseFieldDescriptor (T k).2.2.1 = some (ty0 k)) (hnm : ∀ a, a < N → ∀ b, b < N → a ≠ b → (T a).2.1 ≠ (T b).2.1) (hfin : (T j).2.2.2 = false) (hde : ty0 j = ty) (hn : narrow ty (.int v) = .int v) (hfit : fits ty (.int v) = true) (hd : decode cc pc = .ok (.putfield idx, 3)) (k : K (pc + 3) L st (gUp μ a j v)) : K pc L (.int v :: .ref (g.1 + a) :: st) μ := by
  obtain ⟨p, e, s, m, args, below, meth, co, hx, hb, hml, hown, hkk, hr, hlk, hK⟩ := h
  refine (hK _ _ _ _).mpr (fun H locs ls hP hS hL => ?_)
  have hlt := gk_lt hk (by decide)
  refine va_putN hx hb (Ts := u_ws C T N) (fun w hw => hkk.2.use (hws w hw)) (fun _ h => h) ty0 hty hnm hown hkk.1 hP (gW_D g μ) hS a (gWa g μ hlt (gEn_obj g _ hk)) hc j hj (hkk.2.use hw) (by rw [hT]; exact fun _ h => h) hfin (ty := ty) (by rw [← hde]; exact hty j hj) hn hfit (by simp [gFs, gNf_of hc, hj]) hd (fun H1 locs1 hP1 _ hS1 => ?_)
  rw [gFs_set _ _ hr0, ← gEn_obj g _ hk, gW_set g μ _ hlt] at hP1
  exact (hK _ _ _ _).mp k H1 locs1 ls hP1 hS1 hL
def gIn (i : Int32) (n : Nat) : Bool := !(decide (i < 0) || decide (n ≤ i.toNatClampNeg))
theorem gIn_vp {i : Int32} {n : Nat} (h : gIn i n = true) : vp_in i n := by
  simp only [gIn, Bool.not_eq_true', Bool.or_eq_false_iff, decide_eq_false_iff_not] at h
  rintro (q | q)
  · exact h.1 q
  · exact h.2 q
theorem zr_iald {l : Launch} {g : gG} {cc : ByteArray} {own : String} {nL : Nat} {ret : Option FieldType} {R : Room} {r : Option Value} {μ' : gM} {K : gKt} (h : gR l g cc own nL ret R r μ' K) {pc : Nat} {L : List (Option Value)} {st : List Value} {μ : gM} {a n q : Nat} {i : Int32} (hk : gk a = (1, n)) (hin : gIn i n = true) (hi : i.toNatClampNeg = q) (hd : decode cc pc = .ok (.iaload, 1)) (k : K (pc + 1) L (.int (μ a q) :: st) μ) : K pc L (.int i :: .ref (g.1 + a) :: st) μ := by
  obtain ⟨p, e, s, m, args, below, meth, co, hx, hb, hml, hown, hkk, hr, hlk, hK⟩ := h
  refine (hK _ _ _ _).mpr (fun H locs ls hP hS hL => ?_)
  subst hi
  exact va_iald hx hb hkk.1 hP a 0 (gWa g μ (gk_lt hk (by decide)) (gEn_int g _ hk)) rfl (gIn_vp hin) hd ((hK _ _ _ _).mp k H locs ls hP hS hL)
theorem zr_iast {l : Launch} {g : gG} {cc : ByteArray} {own : String} {nL : Nat} {ret : Option FieldType} {R : Room} {r : Option Value} {μ' : gM} {K : gKt} (h : gR l g cc own nL ret R r μ' K) {pc : Nat} {L : List (Option Value)} {st : List Value} {μ : gM} {a n q : Nat} {i x : Int32} (hk : gk a = (1, n)) (hin : gIn i n = true) (hi : i.toNatClampNeg = q) (hd : decode cc pc = .ok (.iastore, 1)) (k : K (pc + 1) L st (gUp μ a q x)) : K pc L (.int x :: .int i :: .ref (g.1 + a) :: st) μ := by
  obtain ⟨p, e, s, m, args, below, meth, co, hx, hb, hml, hown, hkk, hr, hlk, hK⟩ := h
  refine (hK _ _ _ _).mpr (fun H locs ls hP hS hL => ?_)
  subst hi
  have hlt := gk_lt hk (by decide)
  refine va_iast hx hb hkk.1 hP (gW_D g μ) hS a 0 (gWa g μ hlt (gEn_int g _ hk)) rfl (gIn_vp hin) hd (fun H1 locs1 hP1 _ hS1 => ?_)
  rw [← gEn_int g _ hk, gW_set g μ _ hlt] at hP1
  exact (hK _ _ _ _).mp k H1 locs1 ls hP1 hS1 hL
theorem zr_bald {l : Launch} {g : gG} {cc : ByteArray} {own : String} {nL : Nat} {ret : Option FieldType} {R : Room} {r : Option Value} {μ' : gM} {K : gKt} (h : gR l g cc own nL ret R r μ' K) {pc : Nat} {L : List (Option Value)} {st : List Value} {μ : gM} {a n q : Nat} {i : Int32} (hk : gk a = (2, n)) (hin : gIn i n = true) (hi : i.toNatClampNeg = q) (hd : decode cc pc = .ok (.baload, 1)) (k : K (pc + 1) L (.int (μ a q) :: st) μ) : K pc L (.int i :: .ref (g.1 + a) :: st) μ := by
  obtain ⟨p, e, s, m, args, below, meth, co, hx, hb, hml, hown, hkk, hr, hlk, hK⟩ := h
  refine (hK _ _ _ _).mpr (fun H locs ls hP hS hL => ?_)
  subst hi
  exact va_bald hx hb hkk.1 hP a 1 (gWa g μ (gk_lt hk (by decide)) (gEn_byt g _ hk)) rfl (gIn_vp hin) hd ((hK _ _ _ _).mp k H locs ls hP hS hL)
theorem zr_bast {l : Launch} {g : gG} {cc : ByteArray} {own : String} {nL : Nat} {ret : Option FieldType} {R : Room} {r : Option Value} {μ' : gM} {K : gKt} (h : gR l g cc own nL ret R r μ' K) {pc : Nat} {L : List (Option Value)} {st : List Value} {μ : gM} {a n q : Nat} {i x x' : Int32} (hk : gk a = (2, n)) (hin : gIn i n = true) (hi : i.toNatClampNeg = q) (hx' : (vp_nar .byte x) = x') (hd : decode cc pc = .ok (.bastore, 1)) (k : K (pc + 1) L st (gUp μ a q x')) : K pc L (.int x :: .int i :: .ref (g.1 + a) :: st) μ := by
  obtain ⟨p, e, s, m, args, below, meth, co, hx, hb, hml, hown, hkk, hr, hlk, hK⟩ := h
  refine (hK _ _ _ _).mpr (fun H locs ls hP hS hL => ?_)
  subst hi
  subst hx'
  have hlt := gk_lt hk (by decide)
  refine va_bast hx hb hkk.1 hP (gW_D g μ) hS a 1 (gWa g μ hlt (gEn_byt g _ hk)) rfl (gIn_vp hin) hd (fun H1 locs1 hP1 _ hS1 => ?_)
  rw [← gEn_byt g _ hk, gW_set g μ _ hlt] at hP1
  exact (hK _ _ _ _).mp k H1 locs1 ls hP1 hS1 hL
theorem zr_zald {l : Launch} {g : gG} {cc : ByteArray} {own : String} {nL : Nat} {ret : Option FieldType} {R : Room} {r : Option Value} {μ' : gM} {K : gKt} (h : gR l g cc own nL ret R r μ' K) {pc : Nat} {L : List (Option Value)} {st : List Value} {μ : gM} {a n q : Nat} {i : Int32} (hk : gk a = (3, n)) (hin : gIn i n = true) (hi : i.toNatClampNeg = q) (hd : decode cc pc = .ok (.baload, 1)) (k : K (pc + 1) L (.int (μ a q) :: st) μ) : K pc L (.int i :: .ref (g.1 + a) :: st) μ := by
  obtain ⟨p, e, s, m, args, below, meth, co, hx, hb, hml, hown, hkk, hr, hlk, hK⟩ := h
  refine (hK _ _ _ _).mpr (fun H locs ls hP hS hL => ?_)
  subst hi
  exact va_zald hx hb hkk.1 hP a 2 (gWa g μ (gk_lt hk (by decide)) (gEn_boo g _ hk)) rfl (gIn_vp hin) hd ((hK _ _ _ _).mp k H locs ls hP hS hL)
theorem zr_zast {l : Launch} {g : gG} {cc : ByteArray} {own : String} {nL : Nat} {ret : Option FieldType} {R : Room} {r : Option Value} {μ' : gM} {K : gKt} (h : gR l g cc own nL ret R r μ' K) {pc : Nat} {L : List (Option Value)} {st : List Value} {μ : gM} {a n q : Nat} {i x x' : Int32} (hk : gk a = (3, n)) (hin : gIn i n = true) (hi : i.toNatClampNeg = q) (hx' : (vp_nar .boolean x) = x') (hd : decode cc pc = .ok (.bastore, 1)) (k : K (pc + 1) L st (gUp μ a q x')) : K pc L (.int x :: .int i :: .ref (g.1 + a) :: st) μ := by
  obtain ⟨p, e, s, m, args, below, meth, co, hx, hb, hml, hown, hkk, hr, hlk, hK⟩ := h
  refine (hK _ _ _ _).mpr (fun H locs ls hP hS hL => ?_)
  subst hi
  subst hx'
  have hlt := gk_lt hk (by decide)
  refine va_zast hx hb hkk.1 hP (gW_D g μ) hS a 2 (gWa g μ hlt (gEn_boo g _ hk)) rfl (gIn_vp hin) hd (fun H1 locs1 hP1 _ hS1 => ?_)
  rw [← gEn_boo g _ hk, gW_set g μ _ hlt] at hP1
  exact (hK _ _ _ _).mp k H1 locs1 ls hP1 hS1 hL
theorem zr_aald {l : Launch} {g : gG} {cc : ByteArray} {own : String} {nL : Nat} {ret : Option FieldType} {R : Room} {r : Option Value} {μ' : gM} {K : gKt} (h : gR l g cc own nL ret R r μ' K) {pc : Nat} {L : List (Option Value)} {st : List Value} {μ : gM} {a n q : Nat} {i : Int32} (hk : gk a = (4, n)) (hin : gIn i n = true) (hi : gEl a i.toNatClampNeg = q) (hd : decode cc pc = .ok (.aaload, 1)) (k : K (pc + 1) L (.ref (g.1 + q) :: st) μ) : K pc L (.int i :: .ref (g.1 + a) :: st) μ := by
  obtain ⟨p, e, s, m, args, below, meth, co, hx, hb, hml, hown, hkk, hr, hlk, hK⟩ := h
  refine (hK _ _ _ _).mpr (fun H locs ls hP hS hL => ?_)
  subst hi
  exact va_aldq hx hb hkk.1 hP a 3 (gWa g μ (gk_lt hk (by decide)) (gEn_ref g _ hk)) rfl (gIn_vp hin) hd ((hK _ _ _ _).mp k H locs ls hP hS hL)
theorem zr_alen {l : Launch} {g : gG} {cc : ByteArray} {own : String} {nL : Nat} {ret : Option FieldType} {R : Room} {r : Option Value} {μ' : gM} {K : gKt} (h : gR l g cc own nL ret R r μ' K) {pc : Nat} {L : List (Option Value)} {st : List Value} {μ : gM} {a n : Nat} {v : Int32} (hk : gk a = (1, n)) (hv : Int32.ofNat n = v) (hd : decode cc pc = .ok (.arraylength, 1)) (k : K (pc + 1) L (.int v :: st) μ) : K pc L (.ref (g.1 + a) :: st) μ := by
  obtain ⟨p, e, s, m, args, below, meth, co, hx, hb, hml, hown, hkk, hr, hlk, hK⟩ := h
  refine (hK _ _ _ _).mpr (fun H locs ls hP hS hL => ?_)
  exact va_alen hx hb hkk.1 hP a 0 (gWa g μ (gk_lt hk (by decide)) (gEn_int g _ hk)) rfl hv hd ((hK _ _ _ _).mp k H locs ls hP hS hL)
theorem zr_copy {l : Launch} {g : gG} {cc : ByteArray} {own : String} {nL : Nat} {ret : Option FieldType} {R : Room} {r : Option Value} {μ' : gM} {K : gKt} (h : gR l g cc own nL ret R r μ' K) {pc : Nat} {L : List (Option Value)} {st : List Value} {μ : gM} {a b n0 n1 idx : Nat} {sp dp n : Int32} (hka : gk a = (1, n0)) (hkb : gk b = (1, n1)) (h1 : ¬ sp < 0) (h2 : ¬ dp < 0) (h3 : ¬ n < 0) (h4 : sp.toNatClampNeg + n.toNatClampNeg ≤ n0) (h5 : dp.toNatClampNeg + n.toNatClampNeg ≤ n1) (hw : Cond.methodLink own idx arraycopyName ∈ gwL) (hn : Cond.native arraycopyName ∈ gwL) (hs : Cond.static arraycopyName ∈ gwL) (hi : Cond.initialized "java/lang/System" ∈ gwL) (hf : 1 ≤ R.frames) (hlo : (st.map fun v => v.category).sum + (nativeFrameWords "java/lang/System" "arraycopy" 5 + 11) ≤ R.locals) (hd : decode cc pc = .ok (.invokestatic idx, 3)) (k : K (pc + 3) L st (gCp μ b (va_cpy (μ a) (μ b) sp.toNatClampNeg dp.toNatClampNeg n.toNatClampNeg))) : K pc L (.int n :: .int dp :: .ref (g.1 + b) :: .int sp :: .ref (g.1 + a) :: st) μ := by
  obtain ⟨p, e, s, m, args, below, meth, co, hx, hb, hml, hown, hkk, hr, hlk, hK⟩ := h
  refine (hK _ _ _ _).mpr (fun H locs ls hP hS hL => ?_)
  have hla := gk_lt hka (by decide)
  have hlb := gk_lt hkb (by decide)
  refine va_copyi hx hb (hml.trans hL.1.symm) hown (hkk.2.use hw) (hkk.2.use hn) (hkk.2.use hs) (hkk.2.use hi) hkk.1 hP (gW_D g μ) hS a b 0 0 (gWa g μ hla (gEn_int g _ hka)) (gWa g μ hlb (gEn_int g _ hkb)) rfl rfl rfl h1 h2 h3 h4 h5 (fun _ _ => rfl) hf hlo hd (fun H1 locs1 hP1 _ hS1 => ?_)
  rw [← gEn_int g _ hkb, gW_set g μ _ hlb] at hP1
  exact (hK _ _ _ _).mp k H1 locs1 ls hP1 hS1 hL
theorem zr_iret {l : Launch} {g : gG} {cc : ByteArray} {own : String} {nL : Nat} {R : Room} {r : Option Value} {μ' : gM} {K : gKt} (h : gR l g cc own nL (some .int) R r μ' K) {pc : Nat} {L : List (Option Value)} {μ : gM} {v : Int32} (hd : decode cc pc = .ok (.ireturn, 1)) (hv : r = some (.int v)) (hm : μ' = μ) : K pc L [.int v] μ := by
  obtain ⟨p, e, s, m, args, below, meth, co, hx, hb, hml, hown, hkk, hr, hlk, hK⟩ := h
  refine (hK _ _ _ _).mpr (fun H locs ls hP hS hL => ?_)
  subst hv
  subst hm
  exact W.iret hx hb hr (fun t ht _ => ⟨rfl, by rw [ht]; exact hP, hS.F ht⟩) hS.2.2 hd hlk
theorem zr_zret {l : Launch} {g : gG} {cc : ByteArray} {own : String} {nL : Nat} {R : Room} {r : Option Value} {μ' : gM} {K : gKt} (h : gR l g cc own nL (some .boolean) R r μ' K) {pc : Nat} {L : List (Option Value)} {μ : gM} {v : Int32} (hn : narrow .boolean (.int v) = .int v) (hd : decode cc pc = .ok (.ireturn, 1)) (hv : r = some (.int v)) (hm : μ' = μ) : K pc L [.int v] μ := by
  obtain ⟨p, e, s, m, args, below, meth, co, hx, hb, hml, hown, hkk, hr, hlk, hK⟩ := h
  refine (hK _ _ _ _).mpr (fun H locs ls hP hS hL => ?_)
  subst hv
  subst hm
  exact W.zret hx hb hr hn (fun t ht _ => ⟨rfl, by rw [ht]; exact hP, hS.F ht⟩) hS.2.2 hd hlk
theorem zr_vret {l : Launch} {g : gG} {cc : ByteArray} {own : String} {nL : Nat} {R : Room} {r : Option Value} {μ' : gM} {K : gKt} (h : gR l g cc own nL (none) R r μ' K) {pc : Nat} {L : List (Option Value)} {μ : gM} (hd : decode cc pc = .ok (.return_, 1)) (hv : r = none) (hm : μ' = μ) : K pc L [] μ := by
  obtain ⟨p, e, s, m, args, below, meth, co, hx, hb, hml, hown, hkk, hr, hlk, hK⟩ := h
  refine (hK _ _ _ _).mpr (fun H locs ls hP hS hL => ?_)
  subst hv
  subst hm
  exact W.vret hx hb hr (fun t ht _ => ⟨rfl, by rw [ht]; exact hP, hS.F ht⟩) hS.2.2 hd hlk
theorem gPc_blind (g : gG) (As : List Value) (μ : gM) : FrameBlind (gPc g As μ) := by
  intro a U gg mk hq
  obtain ⟨h1, h2, h3, h4⟩ := hq
  exact ⟨h1, h2, va_K.moved (u := U) (U := U.calling gg mk a) (Vm.Alike.refl U.vm) h3, gT.same h4 rfl⟩
theorem gPc_in {g : gG} {As : List Value} {μ : gM} {s : State} {H : Heap} (hP : gWd g μ H) (hk : gK g s) (U : State) (hU : U.heap = H) (hW : s.WarmedH U.vm) : gPc g As μ As.toArray U := ⟨rfl, by rw [hU]; exact hP, va_K.moved hW.alike hk.1, hk.2.warm hW⟩
theorem gCall {p : Program} {l : Launch} {e : Env} {R : Room} {s : State} {m : MethodId} {args : Array Value} {below : List Frame} {meth : Method} {c : Code} {H : Heap} {locs : List Loc} {Q : State → Prop} {pc : Nat} {ls : Array Slot} {st0 rest : List Value} {a : Array Value} {g : gG} {r : Option Value} {μ1 : gM}
    (hr : va_Run p l e R s m args below meth c H locs 0 0 0 0 (F0 m pc ls st0) rest (gQc g r μ1 a) (gA g.1)) (hS : va_S (gA g.1) s.heap H locs)
    (kk : ∀ (H1 : Heap) (locs1 : List Loc), gWd g μ1 H1 → va_S (gA g.1) s.heap H1 locs1 → W p l e R s m args below meth c H1 locs1 0 0 Q (F0 m (pc + 3) ls (r.toList ++ rest))) : W p l e R s m args below meth c H locs 0 0 Q (F0 m pc ls st0) := by
  intro T hT X
  obtain ⟨v, st₀, t, T', L, h0, X', hL, e1, e2, ⟨hv, hw, hz, hq⟩, st⟩ := hr T hT X
  cases hv
  rw [h0] at hz hq
  obtain ⟨t2, a1, b1⟩ := kk T'.heap (locs ++ L) (by rw [e1]; exact hw)
    ⟨Nat.le_trans hS.1 (by rw [e1]; exact hz), fun q h1 h2 => by rw [e1, hq q (Nat.lt_of_lt_of_le h1 hS.1) h2]; exact hS.2.1 q h1 h2, fun q hq => by
      rcases List.mem_append.mp hq with h | h
      · exact hS.2.2 q h
      · exact hL q h⟩ T' rfl X'
  exact ⟨t2, st t2 a1, b1⟩
theorem gGood {y : MethodName} {cc : ByteArray} {nL : Nat} {ret : Option FieldType} (h : Cond.code y cc nL ret ∈ gwL) : GoodIn gwL [.code y cc nL ret] := by
  intro w hw
  rw [List.mem_singleton.mp hw]
  exact ⟨h, Or.inl rfl⟩
/-- what a callee's name and code are, by the tables: its words -/
def gCode (y : MethodName) (cc : ByteArray) (nL : Nat) (ret : Option FieldType) (n : Nat) : Prop :=
  Cond.code y cc nL ret ∈ gwL ∧ Cond.initialized y.cls ∈ gwL ∧ y.cls ≠ "java/lang/invoke/MethodHandle" ∧ y.cls ≠ "java/lang/invoke/VarHandle" ∧ (parseMethodDescriptor y.desc).map (fun d => d.parameters.length) = some n
theorem zr_callV {l : Launch} {g : gG} {cc : ByteArray} {own : String} {nL : Nat} {ret : Option FieldType} {R : Room} {r : Option Value} {μ' : gM} {K : gKt} (h : gR l g cc own nL ret R r μ' K) {pc : Nat} {L : List (Option Value)} {st : List Value} {μ : gM} {a c idx n nL1 rf rn : Nat} {y : MethodName} {c1 : ByteArray} {ret1 : Option FieldType} {r1 : Option Value} {μ1 : gM} {As : List Value} {N : Nat} {T : u_T} (hka : gk a = (0, c)) (hc : vwCl[c]? = some (y.cls, T, N)) (hw : Cond.methodLink own idx y ∈ gwL) (hin : Cond.instanceMethod y ∈ gwL) (hse : Cond.selects y.cls y y ∈ gwL) (hco : gCode y c1 nL1 ret1 n) (hR : rf + 1 ≤ R.frames ∧ 8 + (nL1 + 11) + rn ≤ R.locals) (hM : gMet l g y c1 nL1 ret1 rf rn (.ref (g.1 + a) :: As) μ r1 μ1) (hn : As.length = n) (hs : (st.map fun v => v.category).sum ≤ 8) (hd : decode cc pc = .ok (.invokevirtual idx, 3)) (k : K (pc + 3) L (r1.toList ++ st) μ1) {sk : List Value} (hsk : sk = As.reverse ++ .ref (g.1 + a) :: st) : K pc L sk μ := by
  obtain ⟨p, e, s, m, args, below, meth, co, hx, hb, hml, hown, hkk, hr, hlk, hK⟩ := h
  refine (hK _ _ _ _).mpr (fun H locs ls hP hS hL => ?_)
  subst hsk
  have hlt := gk_lt hka (by decide)
  have hrec : ∃ cellB : Cell, H[g.1 + a]? = some cellB ∧ cellB.vm.isStatics = false ∧ s.vm.findClass y.cls = some cellB.cls := by
    obtain ⟨rr, h1, cell, q1, q2, q3, q4⟩ := hP a _ (gWa g μ hlt (gEn_obj g _ hka))
    have e1 : rr = (y.cls, T, N) := Option.some.inj (h1.symm.trans hc)
    obtain ⟨hSl, hfc, -⟩ := hkk.1.1 c _ hc
    exact ⟨cell, q1, by rw [q3]; rfl, by rw [q2]; exact hfc⟩
  obtain ⟨q1, q2, q3, q4, q5⟩ := hco
  refine gCall (va_runV (As := As) (rest := st) (b := g.1 + a) (Ts := gwL) (n := n) (C := y.cls) (bytes := c1) (maxL := nL1) (ret := ret1) ⟨hx, hb, hml, hown, fun w hw => hkk.2.use hw⟩ hM ⟨callB_of n (fun w hw => hkk.2.use hw) (gGood q1) rfl rfl rfl (hkk.2.use q2) (hkk.2.use hw) ⟨q3, q4, q5⟩ hR, hkk.2.use hin, hkk.2.use hse⟩ ⟨gPc_blind _ _ _, hrec, fun U hU hW => gPc_in hP hkk U hU hW⟩ rfl hn hL.1 rfl (lv_room hs) hd ⟨Nat.zero_le _, Nat.zero_le _⟩) hS (fun H1 locs1 hP1 hS1 => (hK _ _ _ _).mp k H1 locs1 ls hP1 hS1 hL)
theorem zr_callVN {l : Launch} {g : gG} {cc : ByteArray} {own : String} {nL : Nat} {ret : Option FieldType} {R : Room} {r : Option Value} {μ' : gM} {K : gKt} (h : gR l g cc own nL ret R r μ' K) {pc : Nat} {L : List (Option Value)} {st : List Value} {μ : gM} {a c idx n nL1 rf rn : Nat} {y : MethodName} {c1 : ByteArray} {ret1 : Option FieldType} {r1 : Option Value} {μ1 : gM} {As : List Value} {N : Nat} {T : u_T} {host : String} (hka : gk a = (0, c)) (hc : vwCl[c]? = some (y.cls, T, N)) (hw : Cond.methodLinkNest own idx y host ∈ gwL) (hin : Cond.instanceMethod y ∈ gwL) (hse : Cond.selects y.cls y y ∈ gwL) (hco : gCode y c1 nL1 ret1 n) (hR : rf + 1 ≤ R.frames ∧ 8 + (nL1 + 11) + rn ≤ R.locals) (hM : gMet l g y c1 nL1 ret1 rf rn (.ref (g.1 + a) :: As) μ r1 μ1) (hn : As.length = n) (hs : (st.map fun v => v.category).sum ≤ 8) (hd : decode cc pc = .ok (.invokevirtual idx, 3)) (k : K (pc + 3) L (r1.toList ++ st) μ1) {sk : List Value} (hsk : sk = As.reverse ++ .ref (g.1 + a) :: st) : K pc L sk μ := by
  obtain ⟨p, e, s, m, args, below, meth, co, hx, hb, hml, hown, hkk, hr, hlk, hK⟩ := h
  refine (hK _ _ _ _).mpr (fun H locs ls hP hS hL => ?_)
  subst hsk
  have hlt := gk_lt hka (by decide)
  have hrec : ∃ cellB : Cell, H[g.1 + a]? = some cellB ∧ cellB.vm.isStatics = false ∧ s.vm.findClass y.cls = some cellB.cls := by
    obtain ⟨rr, h1, cell, q1, q2, q3, q4⟩ := hP a _ (gWa g μ hlt (gEn_obj g _ hka))
    have e1 : rr = (y.cls, T, N) := Option.some.inj (h1.symm.trans hc)
    obtain ⟨hSl, hfc, -⟩ := hkk.1.1 c _ hc
    exact ⟨cell, q1, by rw [q3]; rfl, by rw [q2]; exact hfc⟩
  obtain ⟨q1, q2, q3, q4, q5⟩ := hco
  refine gCall (va_runVN (As := As) (rest := st) (b := g.1 + a) (Ts := gwL) (n := n) (C := y.cls) (bytes := c1) (maxL := nL1) (ret := ret1) ⟨hx, hb, hml, hown, fun w hw => hkk.2.use hw⟩ hM ⟨va_cnB n (fun w hw => hkk.2.use hw) (gGood q1) rfl rfl rfl (hkk.2.use hw) (hkk.2.use q2) ⟨q3, q4, q5⟩ hR, hkk.2.use hin, hkk.2.use hse⟩ ⟨gPc_blind _ _ _, hrec, fun U hU hW => gPc_in hP hkk U hU hW⟩ rfl hn hL.1 rfl (lv_room hs) hd ⟨Nat.zero_le _, Nat.zero_le _⟩) hS (fun H1 locs1 hP1 hS1 => (hK _ _ _ _).mp k H1 locs1 ls hP1 hS1 hL)
theorem zr_callS {l : Launch} {g : gG} {cc : ByteArray} {own : String} {nL : Nat} {ret : Option FieldType} {R : Room} {r : Option Value} {μ' : gM} {K : gKt} (h : gR l g cc own nL ret R r μ' K) {pc : Nat} {L : List (Option Value)} {st : List Value} {μ : gM} {idx n nL1 rf rn : Nat} {y : MethodName} {c1 : ByteArray} {ret1 : Option FieldType} {r1 : Option Value} {μ1 : gM} {As : List Value} (hw : Cond.methodLink own idx y ∈ gwL) (hst : Cond.static y ∈ gwL) (hco : gCode y c1 nL1 ret1 n) (hR : rf + 1 ≤ R.frames ∧ 8 + (nL1 + 11) + rn ≤ R.locals) (hM : gMet l g y c1 nL1 ret1 rf rn As μ r1 μ1) (hn : As.length = n) (hs : (st.map fun v => v.category).sum ≤ 8) (hd : decode cc pc = .ok (.invokestatic idx, 3)) (k : K (pc + 3) L (r1.toList ++ st) μ1) {sk : List Value} (hsk : sk = As.reverse ++ st) : K pc L sk μ := by
  obtain ⟨p, e, s, m, args, below, meth, co, hx, hb, hml, hown, hkk, hr, hlk, hK⟩ := h
  refine (hK _ _ _ _).mpr (fun H locs ls hP hS hL => ?_)
  subst hsk
  obtain ⟨q1, q2, q3, q4, q5⟩ := hco
  refine gCall (va_runS (As := As) (rest := st) (Ts := gwL) (n := n) (bytes := c1) (maxL := nL1) (ret := ret1) ⟨hx, hb, hml, hown, fun w hw => hkk.2.use hw⟩ hM ⟨callB_of n (fun w hw => hkk.2.use hw) (gGood q1) rfl rfl rfl (hkk.2.use q2) (hkk.2.use hw) ⟨q3, q4, q5⟩ hR, hkk.2.use hst⟩ ⟨gPc_blind _ _ _, fun U hU hW => gPc_in hP hkk U hU hW⟩ rfl hn hL.1 rfl (lv_room hs) hd ⟨Nat.zero_le _, Nat.zero_le _⟩) hS (fun H1 locs1 hP1 hS1 => (hK _ _ _ _).mp k H1 locs1 ls hP1 hS1 hL)
theorem zr_callSN {l : Launch} {g : gG} {cc : ByteArray} {own : String} {nL : Nat} {ret : Option FieldType} {R : Room} {r : Option Value} {μ' : gM} {K : gKt} (h : gR l g cc own nL ret R r μ' K) {pc : Nat} {L : List (Option Value)} {st : List Value} {μ : gM} {idx n nL1 rf rn : Nat} {y : MethodName} {c1 : ByteArray} {ret1 : Option FieldType} {r1 : Option Value} {μ1 : gM} {As : List Value} {host : String} (hw : Cond.methodLinkNest own idx y host ∈ gwL) (hst : Cond.static y ∈ gwL) (hco : gCode y c1 nL1 ret1 n) (hR : rf + 1 ≤ R.frames ∧ 8 + (nL1 + 11) + rn ≤ R.locals) (hM : gMet l g y c1 nL1 ret1 rf rn As μ r1 μ1) (hn : As.length = n) (hs : (st.map fun v => v.category).sum ≤ 8) (hd : decode cc pc = .ok (.invokestatic idx, 3)) (k : K (pc + 3) L (r1.toList ++ st) μ1) {sk : List Value} (hsk : sk = As.reverse ++ st) : K pc L sk μ := by
  obtain ⟨p, e, s, m, args, below, meth, co, hx, hb, hml, hown, hkk, hr, hlk, hK⟩ := h
  refine (hK _ _ _ _).mpr (fun H locs ls hP hS hL => ?_)
  subst hsk
  obtain ⟨q1, q2, q3, q4, q5⟩ := hco
  refine gCall (va_runSN (As := As) (rest := st) (Ts := gwL) (n := n) (bytes := c1) (maxL := nL1) (ret := ret1) ⟨hx, hb, hml, hown, fun w hw => hkk.2.use hw⟩ hM ⟨va_cnB n (fun w hw => hkk.2.use hw) (gGood q1) rfl rfl rfl (hkk.2.use hw) (hkk.2.use q2) ⟨q3, q4, q5⟩ hR, hkk.2.use hst, trivial⟩ ⟨gPc_blind _ _ _, fun U hU hW => gPc_in hP hkk U hU hW⟩ rfl hn hL.1 rfl (lv_room hs) hd ⟨Nat.zero_le _, Nat.zero_le _⟩) hS (fun H1 locs1 hP1 hS1 => (hK _ _ _ _).mp k H1 locs1 ls hP1 hS1 hL)
theorem zr_tabIn {l : Launch} {g : gG} {cc : ByteArray} {own : String} {nL : Nat} {ret : Option FieldType} {R : Room} {r : Option Value} {μ' : gM} {K : gKt} (h : gR l g cc own nL ret R r μ' K) {pc : Nat} {L : List (Option Value)} {st : List Value} {μ : gM} {dflt lo hi : Int} {offs : Array Int} {len : Nat} {x : Int32} {off : Int} {tgt : Nat} (hd : decode cc pc = .ok (.tableswitch dflt lo hi offs, len)) (h1 : ¬ x.toInt < lo) (h2 : ¬ hi < x.toInt) (ho : offs[(x.toInt - lo).toNat]? = some off) (ht : (pc : Int) + off = (tgt : Int)) (k : K tgt L st μ) : K pc L (.int x :: st) μ := by
  obtain ⟨p, e, s, m, args, below, meth, c, hx, hb, hml, hown, hk, hr, hlk, hK⟩ := h
  refine (hK _ _ _ _).mpr (fun H locs ls hP hS hL => ?_)
  exact lv_tableIn hx hb hd h1 h2 ho ht ((hK _ _ _ _).mp k H locs ls hP hS hL)
theorem zr_tabOut {l : Launch} {g : gG} {cc : ByteArray} {own : String} {nL : Nat} {ret : Option FieldType} {R : Room} {r : Option Value} {μ' : gM} {K : gKt} (h : gR l g cc own nL ret R r μ' K) {pc : Nat} {L : List (Option Value)} {st : List Value} {μ : gM} {dflt lo hi : Int} {offs : Array Int} {len : Nat} {x : Int32} {tgt : Nat} (hd : decode cc pc = .ok (.tableswitch dflt lo hi offs, len)) (ho : x.toInt < lo ∨ hi < x.toInt) (ht : (pc : Int) + dflt = (tgt : Int)) (k : K tgt L st μ) : K pc L (.int x :: st) μ := by
  obtain ⟨p, e, s, m, args, below, meth, c, hx, hb, hml, hown, hk, hr, hlk, hK⟩ := h
  refine (hK _ _ _ _).mpr (fun H locs ls hP hS hL => ?_)
  exact lv_tableOut hx hb hd ho ht ((hK _ _ _ _).mp k H locs ls hP hS hL)
theorem zr_lookup {l : Launch} {g : gG} {cc : ByteArray} {own : String} {nL : Nat} {ret : Option FieldType} {R : Room} {r : Option Value} {μ' : gM} {K : gKt} (h : gR l g cc own nL ret R r μ' K) {pc : Nat} {L : List (Option Value)} {st : List Value} {μ : gM} {dflt : Int} {ps : Array (Int × Int)} {len : Nat} {x : Int32} {off : Int} {tgt : Nat} (hd : decode cc pc = .ok (.lookupswitch dflt ps, len)) (hp : (ps.toList.zip (ps.toList.drop 1)).all (fun (a, next) => a.1 < next.1) = true) (ho : Op.lookupswitch.offset ps.toList dflt x.toInt = off) (ht : (pc : Int) + off = (tgt : Int)) (k : K tgt L st μ) : K pc L (.int x :: st) μ := by
  obtain ⟨p, e, s, m, args, below, meth, c, hx, hb, hml, hown, hk, hr, hlk, hK⟩ := h
  refine (hK _ _ _ _).mpr (fun H locs ls hP hS hL => ?_)
  exact lv_lookup hx hb hd hp ho ht ((hK _ _ _ _).mp k H locs ls hP hS hL)
/-! the words of functions: a value named, a check, a bind -/
def zLt {α β : Type} (a : α) (f : α → β) : β := f a
def zCk {α : Type} (b : Bool) (x : Option α) : Option α := if b then x else none
def zBd {α β : Type} (x : Option α) (f : α → Option β) : Option β := x.bind f
def zBp {β : Type} (x : Option (Int32 × gM)) (f : Int32 → gM → Option β) : Option β := x.bind (fun q => f q.1 q.2)
theorem zCk_s {α : Type} {b : Bool} {x : Option α} {v : α} (h : zCk b x = some v) : b = true ∧ x = some v := by
  unfold zCk at h
  split at h
  · exact ⟨by assumption, h⟩
  · cases h
theorem zBd_s {α β : Type} {x : Option α} {f : α → Option β} {v : β} (h : zBd x f = some v) : ∃ a, x = some a ∧ f a = some v := by
  unfold zBd at h
  cases x with
  | none => cases h
  | some a => exact ⟨a, rfl, h⟩
theorem zBp_s {β : Type} {x : Option (Int32 × gM)} {f : Int32 → gM → Option β} {v : β} (h : zBp x f = some v) : ∃ (a : Int32) (μ : gM), x = some (a, μ) ∧ f a μ = some v := by
  unfold zBp at h
  cases x with
  | none => cases h
  | some a => exact ⟨a.1, a.2, rfl, h⟩
theorem zIf_s {α : Type} {c : Prop} [Decidable c] {x y : Option α} {v : α} (h : (if c then x else y) = some v) : (c → x = some v) ∧ (¬ c → y = some v) := by
  by_cases hc : c
  · rw [if_pos hc] at h
    exact ⟨fun _ => h, fun q => absurd hc q⟩
  · rw [if_neg hc] at h
    exact ⟨fun q => absurd q hc, fun _ => h⟩
