/-! small rules beside the core's: naming, weakening, entry, returns -/
theorem zLt_s {α β : Type} {a x : α} {f : α → β} {v : β} (e : x = a) (h : zLt a f = v) : f x = v := by subst e; exact h
theorem zr_topi {l : Launch} {g : gG} {cc : ByteArray} {own : String} {nL : Nat} {ret : Option FieldType} {R : Room} {r : Option Value} {μ' : gM} {K : gKt} (_h : gR l g cc own nL ret R r μ' K) {pc : Nat} {L : List (Option Value)} {st : List Value} {μ : gM} {v : Int32} (k : ∀ x : Int32, x = v → K pc L (.int x :: st) μ) : K pc L (.int v :: st) μ := k v rfl
theorem zr_topl {l : Launch} {g : gG} {cc : ByteArray} {own : String} {nL : Nat} {ret : Option FieldType} {R : Room} {r : Option Value} {μ' : gM} {K : gKt} (_h : gR l g cc own nL ret R r μ' K) {pc : Nat} {L : List (Option Value)} {st : List Value} {μ : gM} {v : Int64} (k : ∀ x : Int64, x = v → K pc L (.long x :: st) μ) : K pc L (.long v :: st) μ := k v rfl
theorem zr_mu {l : Launch} {g : gG} {cc : ByteArray} {own : String} {nL : Nat} {ret : Option FieldType} {R : Room} {r : Option Value} {μ' : gM} {K : gKt} (_h : gR l g cc own nL ret R r μ' K) {pc : Nat} {L : List (Option Value)} {st : List Value} {μ : gM} (k : ∀ x : gM, x = μ → K pc L st x) : K pc L st μ := k μ rfl
theorem zr_iincx {l : Launch} {g : gG} {cc : ByteArray} {own : String} {nL : Nat} {ret : Option FieldType} {R : Room} {r : Option Value} {μ' : gM} {K : gKt} (h : gR l g cc own nL ret R r μ' K) {pc : Nat} {L : List (Option Value)} {st : List Value} {μ : gM} {i : Nat} {n : Int} {x c : Int32} (hd : decode cc pc = .ok (.iinc i n, 3)) (hl : L[i]? = some (some (.int x))) (hn : i < nL) (ho : gOk L i = true) (hc : Int32.ofInt n = c) (k : ∀ v : Int32, v = x + c → K (pc + 3) (L.set i (some (.int v))) st μ) : K pc L st μ := zr_iinc h hd hl hn ho (k _ (by rw [hc]))
theorem zr_ldcw {l : Launch} {g : gG} {cc : ByteArray} {own : String} {nL : Nat} {ret : Option FieldType} {R : Room} {r : Option Value} {μ' : gM} {K : gKt} (h : gR l g cc own nL ret R r μ' K) {pc : Nat} {L : List (Option Value)} {st : List Value} {μ : gM} {idx : Nat} {v : Int32} (hw : Cond.constant own idx v ∈ gwL) (hd : decode cc pc = .ok (.ldc_w idx, 3)) (k : K (pc + 3) L (.int v :: st) μ) : K pc L st μ := by
  obtain ⟨p, e, s, m, args, below, meth, c, hx, hb, hml, hown, hk, hr, hlk, hK⟩ := h
  refine (hK _ _ _ _).mpr (fun H locs ls hP hS hL => ?_)
  exact lv_ldcw hx hb hown (hk.2.use hw) hd ((hK _ _ _ _).mp k H locs ls hP hS hL)
def gMask : List Bool → List (Option Value) → List (Option Value)
  | true :: bs, v :: vs => v :: gMask bs vs
  | false :: bs, _ :: vs => none :: gMask bs vs
  | _, _ => []
theorem gMask_at : ∀ (bs : List Bool) (L : List (Option Value)) (i : Nat) (v : Value), (gMask bs L)[i]? = some (some v) → L[i]? = some (some v)
  | true :: bs, w :: vs, 0, v, h => by simpa [gMask] using h
  | true :: bs, w :: vs, i + 1, v, h => by
    have h1 : (gMask bs vs)[i]? = some (some v) := by simpa [gMask] using h
    simpa using gMask_at bs vs i v h1
  | false :: bs, w :: vs, 0, v, h => by simp [gMask] at h
  | false :: bs, w :: vs, i + 1, v, h => by
    have h1 : (gMask bs vs)[i]? = some (some v) := by simpa [gMask] using h
    simpa using gMask_at bs vs i v h1
  | [], _, _, _, h => by simp [gMask] at h
  | true :: _, [], _, _, h => by simp [gMask] at h
  | false :: _, [], _, _, h => by simp [gMask] at h
theorem zr_weak {l : Launch} {g : gG} {cc : ByteArray} {own : String} {nL : Nat} {ret : Option FieldType} {R : Room} {r : Option Value} {μ' : gM} {K : gKt} (h : gR l g cc own nL ret R r μ' K) {pc : Nat} {L : List (Option Value)} {st : List Value} {μ : gM} (bs : List Bool) (k : K pc (gMask bs L) st μ) : K pc L st μ := by
  obtain ⟨p, e, s, m, args, below, meth, c, hx, hb, hml, hown, hk, hr, hlk, hK⟩ := h
  refine (hK _ _ _ _).mpr (fun H locs ls hP hS hL => ?_)
  exact (hK _ _ _ _).mp k H locs ls hP hS ⟨hL.1, hL.2.1, fun i v hi => hL.2.2 i v (gMask_at bs L i v hi)⟩
def gIni : List Value → List (Option Value)
  | [] => []
  | v :: vs => if v.category = 2 then some v :: none :: gIni vs else some v :: gIni vs
theorem gIni_go : ∀ (As : List Value) (k b i : Nat) (v : Value), (gIni As ++ List.replicate k none)[i]? = some (some v) → (b + i, v) ∈ lv_args b As
  | [], k, b, i, v, h => by
    simp [gIni, List.getElem?_replicate] at h
  | w :: vs, k, b, i, v, h => by
    unfold gIni at h
    unfold lv_args
    by_cases hc : w.category = 2
    · rw [if_pos hc] at h
      rw [if_pos hc]
      match i, h with
      | 0, h =>
        have e : w = v := by simpa using h
        subst e
        exact List.mem_cons_self
      | 1, h => simp at h
      | i + 2, h =>
        have h1 : (gIni vs ++ List.replicate k none)[i]? = some (some v) := by simpa using h
        have h2 := gIni_go vs k (b + 2) i v h1
        refine List.mem_cons_of_mem _ ?_
        rw [show b + (i + 2) = b + 2 + i by omega]
        exact h2
    · rw [if_neg hc] at h
      rw [if_neg hc]
      match i, h with
      | 0, h =>
        have e : w = v := by simpa using h
        subst e
        exact List.mem_cons_self
      | i + 1, h =>
        have h1 : (gIni vs ++ List.replicate k none)[i]? = some (some v) := by simpa using h
        have h2 := gIni_go vs k (b + 1) i v h1
        refine List.mem_cons_of_mem _ ?_
        rw [show b + (i + 1) = b + 1 + i by omega]
        exact h2
theorem gIni_ok (As : List Value) (k : Nat) : ∀ (i : Nat) (v : Value), (gIni As ++ List.replicate k none)[i]? = some (some v) → (i, v) ∈ lv_args 0 As := fun i v h => by
  have h1 := gIni_go As k 0 i v h
  rwa [Nat.zero_add] at h1
theorem zRp {v r : Int32} {m ν : gM} (h : some (v, m) = some (r, ν)) : some (Value.int r) = some (Value.int v) ∧ ν = m := by
  cases h
  exact ⟨rfl, rfl⟩
theorem zRi {v r : Int32} (h : some v = some r) : some (Value.int r) = some (Value.int v) := by
  cases h
  rfl
theorem zRv {m ν : gM} (h : some m = some ν) : ν = m := by
  cases h
  rfl
theorem zBoo {v : Int32} (h : (v == 0 || v == 1) = true) : narrow .boolean (.int v) = .int v := by
  simp only [Bool.or_eq_true, beq_iff_eq] at h
  rcases h with h | h <;> subst h <;> rfl
theorem vp_nar_b (x : Int32) : vp_nar .byte x.toInt8.toInt32 = x.toInt8.toInt32 := pk_vb x
theorem zTab {x : Int32} {n : Nat} (hn : n < 2 ^ 31) (h : ∀ j : Nat, j ≤ n → ¬ x = Int32.ofNat j) : x.toInt < 0 ∨ (n : Int) < x.toInt := by
  rcases (show x.toInt < 0 ∨ 0 ≤ x.toInt by omega) with h1 | h1
  · exact Or.inl h1
  · right
    rcases (show (n : Int) < x.toInt ∨ x.toInt ≤ (n : Int) by omega) with h2 | h2
    · exact h2
    · exfalso
      have h3 : ¬ x < 0 := by
        intro q
        have := Int32.lt_iff_toInt_lt.mp q
        have e : (0 : Int32).toInt = 0 := rfl
        omega
      obtain ⟨j, hj, e⟩ := nI_of h3
      have e2 : x.toInt = (j : Int) := by rw [e]; exact nI_toInt hj
      exact h j (by omega) e
def zMx (x y : Int32) : Int32 := if x < y then y else x
def zMn (x y : Int32) : Int32 := if y < x then y else x
theorem zr_mmax {l : Launch} {g : gG} {cc : ByteArray} {own : String} {nL : Nat} {ret : Option FieldType} {R : Room} {r : Option Value} {μ' : gM} {K : gKt} (h : gR l g cc own nL ret R r μ' K) {pc : Nat} {L : List (Option Value)} {st : List Value} {μ : gM} {idx : Nat} {x y : Int32} (hw : Cond.methodLink own idx Lib.Math.max.name ∈ gwL) (hs : Cond.static Lib.Math.max.name ∈ gwL) (hi : Cond.initialized "java/lang/Math" ∈ gwL) (hc : Cond.code Lib.Math.max.name Lib.Math.max.code 2 (some .int) ∈ gwL) (hf : 1 ≤ R.frames) (hlo : (st.map fun v => v.category).sum + 13 ≤ R.locals) (hd : decode cc pc = .ok (.invokestatic idx, 3)) (k : K (pc + 3) L (.int (zMx x y) :: st) μ) : K pc L (.int y :: .int x :: st) μ := by
  obtain ⟨p, e, s, m, args, below, meth, c, hx, hb, hml, hown, hk, hr, hlk, hK⟩ := h
  refine (hK _ _ _ _).mpr (fun H locs ls hP hS hL => ?_)
  exact va_mmax hx hb (hml.trans hL.1.symm) hown (hk.2.use hw) (hk.2.use hs) (hk.2.use hi) (hk.2.use hc) hf hlo (Nat.zero_le _) (Nat.zero_le _) hd ((hK _ _ _ _).mp k H locs ls hP hS hL)
theorem zr_mmin {l : Launch} {g : gG} {cc : ByteArray} {own : String} {nL : Nat} {ret : Option FieldType} {R : Room} {r : Option Value} {μ' : gM} {K : gKt} (h : gR l g cc own nL ret R r μ' K) {pc : Nat} {L : List (Option Value)} {st : List Value} {μ : gM} {idx : Nat} {x y : Int32} (hw : Cond.methodLink own idx Lib.Math.min.name ∈ gwL) (hs : Cond.static Lib.Math.min.name ∈ gwL) (hi : Cond.initialized "java/lang/Math" ∈ gwL) (hc : Cond.code Lib.Math.min.name Lib.Math.min.code 2 (some .int) ∈ gwL) (hf : 1 ≤ R.frames) (hlo : (st.map fun v => v.category).sum + 13 ≤ R.locals) (hd : decode cc pc = .ok (.invokestatic idx, 3)) (k : K (pc + 3) L (.int (zMn x y) :: st) μ) : K pc L (.int y :: .int x :: st) μ := by
  obtain ⟨p, e, s, m, args, below, meth, c, hx, hb, hml, hown, hk, hr, hlk, hK⟩ := h
  refine (hK _ _ _ _).mpr (fun H locs ls hP hS hL => ?_)
  exact va_mmin hx hb (hml.trans hL.1.symm) hown (hk.2.use hw) (hk.2.use hs) (hk.2.use hi) (hk.2.use hc) hf hlo (Nat.zero_le _) (Nat.zero_le _) hd ((hK _ _ _ _).mp k H locs ls hP hS hL)
theorem zLook3 {x : Int32} {a b c : Int32} {A B C d da db dc : Int} (ha : a.toInt = A) (hb : b.toInt = B) (hc : c.toInt = C) (h1 : ¬ x = a) (h2 : ¬ x = b) (h3 : ¬ x = c) : Op.lookupswitch.offset [(A, da), (B, db), (C, dc)] d x.toInt = d := by
  have e : ∀ {y : Int32} {Y : Int}, y.toInt = Y → ¬ x = y → ¬ Y = x.toInt := by
    intro y Y hy hn q
    apply hn
    apply Int32.toInt_inj.mp
    rw [hy, q]
  have e1 := e ha h1
  have e2 := e hb h2
  have e3 := e hc h3
  simp [Op.lookupswitch.offset, e1, e2, e3, fun q : x.toInt = A => e1 q.symm, fun q : x.toInt = B => e2 q.symm, fun q : x.toInt = C => e3 q.symm]
