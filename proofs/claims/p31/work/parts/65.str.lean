theorem dJ0_length_8abf5_0 : decode cJ0_length_8abf5 0 = .ok (.aload_n 0, 1) := by decide +kernel
theorem dJ0_length_8abf5_1 : decode cJ0_length_8abf5 1 = .ok (.getfield 9, 3) := by decide +kernel
theorem dJ0_length_8abf5_4 : decode cJ0_length_8abf5 4 = .ok (.arraylength, 1) := by decide +kernel
theorem dJ0_length_8abf5_5 : decode cJ0_length_8abf5 5 = .ok (.aload_n 0, 1) := by decide +kernel
theorem dJ0_length_8abf5_6 : decode cJ0_length_8abf5 6 = .ok (.invokevirtual 335, 3) := by decide +kernel
theorem dJ0_length_8abf5_9 : decode cJ0_length_8abf5 9 = .ok (.ishr, 1) := by decide +kernel
theorem dJ0_length_8abf5_10 : decode cJ0_length_8abf5 10 = .ok (.ireturn, 1) := by decide +kernel
theorem dJ0_coder_7d493_0 : decode cJ0_coder_7d493 0 = .ok (.getstatic 38, 3) := by decide +kernel
theorem dJ0_coder_7d493_3 : decode cJ0_coder_7d493 3 = .ok (.ifCond .eq 10, 3) := by decide +kernel
theorem dJ0_coder_7d493_6 : decode cJ0_coder_7d493 6 = .ok (.aload_n 0, 1) := by decide +kernel
theorem dJ0_coder_7d493_7 : decode cJ0_coder_7d493 7 = .ok (.getfield 15, 3) := by decide +kernel
theorem dJ0_coder_7d493_10 : decode cJ0_coder_7d493 10 = .ok (.goto 4, 3) := by decide +kernel
theorem dJ0_coder_7d493_13 : decode cJ0_coder_7d493 13 = .ok (.iconst 1, 1) := by decide +kernel
theorem dJ0_coder_7d493_14 : decode cJ0_coder_7d493 14 = .ok (.ireturn, 1) := by decide +kernel
theorem dJ0_charAt_5068e_0 : decode cJ0_charAt_5068e 0 = .ok (.aload_n 0, 1) := by decide +kernel
theorem dJ0_charAt_5068e_1 : decode cJ0_charAt_5068e 1 = .ok (.invokevirtual 492, 3) := by decide +kernel
theorem dJ0_charAt_5068e_4 : decode cJ0_charAt_5068e 4 = .ok (.ifCond .eq 12, 3) := by decide +kernel
theorem dJ0_charAt_5068e_7 : decode cJ0_charAt_5068e 7 = .ok (.aload_n 0, 1) := by decide +kernel
theorem dJ0_charAt_5068e_8 : decode cJ0_charAt_5068e 8 = .ok (.getfield 9, 3) := by decide +kernel
theorem dJ0_charAt_5068e_11 : decode cJ0_charAt_5068e 11 = .ok (.iload_n 1, 1) := by decide +kernel
theorem dJ0_charAt_5068e_12 : decode cJ0_charAt_5068e 12 = .ok (.invokestatic 495, 3) := by decide +kernel
theorem dJ0_charAt_5068e_15 : decode cJ0_charAt_5068e 15 = .ok (.ireturn, 1) := by decide +kernel
theorem dJ0_charAt_5068e_16 : decode cJ0_charAt_5068e 16 = .ok (.aload_n 0, 1) := by decide +kernel
theorem dJ0_charAt_5068e_17 : decode cJ0_charAt_5068e 17 = .ok (.getfield 9, 3) := by decide +kernel
theorem dJ0_charAt_5068e_20 : decode cJ0_charAt_5068e 20 = .ok (.iload_n 1, 1) := by decide +kernel
theorem dJ0_charAt_5068e_21 : decode cJ0_charAt_5068e 21 = .ok (.invokestatic 498, 3) := by decide +kernel
theorem dJ0_charAt_5068e_24 : decode cJ0_charAt_5068e 24 = .ok (.ireturn, 1) := by decide +kernel
theorem dJ0_isLatin1_aae02_0 : decode cJ0_isLatin1_aae02 0 = .ok (.getstatic 38, 3) := by decide +kernel
theorem dJ0_isLatin1_aae02_3 : decode cJ0_isLatin1_aae02 3 = .ok (.ifCond .eq 14, 3) := by decide +kernel
theorem dJ0_isLatin1_aae02_6 : decode cJ0_isLatin1_aae02 6 = .ok (.aload_n 0, 1) := by decide +kernel
theorem dJ0_isLatin1_aae02_7 : decode cJ0_isLatin1_aae02 7 = .ok (.getfield 15, 3) := by decide +kernel
theorem dJ0_isLatin1_aae02_10 : decode cJ0_isLatin1_aae02 10 = .ok (.ifCond .ne 7, 3) := by decide +kernel
theorem dJ0_isLatin1_aae02_13 : decode cJ0_isLatin1_aae02 13 = .ok (.iconst 1, 1) := by decide +kernel
theorem dJ0_isLatin1_aae02_14 : decode cJ0_isLatin1_aae02 14 = .ok (.goto 4, 3) := by decide +kernel
theorem dJ0_isLatin1_aae02_17 : decode cJ0_isLatin1_aae02 17 = .ok (.iconst 0, 1) := by decide +kernel
theorem dJ0_isLatin1_aae02_18 : decode cJ0_isLatin1_aae02 18 = .ok (.ireturn, 1) := by decide +kernel
theorem dJ1_charAt_3b067_0 : decode cJ1_charAt_3b067 0 = .ok (.iload_n 1, 1) := by decide +kernel
theorem dJ1_charAt_3b067_1 : decode cJ1_charAt_3b067 1 = .ok (.aload_n 0, 1) := by decide +kernel
theorem dJ1_charAt_3b067_2 : decode cJ1_charAt_3b067 2 = .ok (.arraylength, 1) := by decide +kernel
theorem dJ1_charAt_3b067_3 : decode cJ1_charAt_3b067 3 = .ok (.invokestatic 9, 3) := by decide +kernel
theorem dJ1_charAt_3b067_6 : decode cJ1_charAt_3b067 6 = .ok (.aload_n 0, 1) := by decide +kernel
theorem dJ1_charAt_3b067_7 : decode cJ1_charAt_3b067 7 = .ok (.iload_n 1, 1) := by decide +kernel
theorem dJ1_charAt_3b067_8 : decode cJ1_charAt_3b067 8 = .ok (.baload, 1) := by decide +kernel
theorem dJ1_charAt_3b067_9 : decode cJ1_charAt_3b067 9 = .ok (.sipush 255, 3) := by decide +kernel
theorem dJ1_charAt_3b067_12 : decode cJ1_charAt_3b067 12 = .ok (.iand, 1) := by decide +kernel
theorem dJ1_charAt_3b067_13 : decode cJ1_charAt_3b067 13 = .ok (.i2c, 1) := by decide +kernel
theorem dJ1_charAt_3b067_14 : decode cJ1_charAt_3b067 14 = .ok (.ireturn, 1) := by decide +kernel
theorem dJ0_checkIndex_df160_0 : decode cJ0_checkIndex_df160 0 = .ok (.iload_n 0, 1) := by decide +kernel
theorem dJ0_checkIndex_df160_1 : decode cJ0_checkIndex_df160 1 = .ok (.iload_n 1, 1) := by decide +kernel
theorem dJ0_checkIndex_df160_2 : decode cJ0_checkIndex_df160 2 = .ok (.getstatic 1053, 3) := by decide +kernel
theorem dJ0_checkIndex_df160_5 : decode cJ0_checkIndex_df160 5 = .ok (.invokestatic 1059, 3) := by decide +kernel
theorem dJ0_checkIndex_df160_8 : decode cJ0_checkIndex_df160 8 = .ok (.pop, 1) := by decide +kernel
theorem dJ0_checkIndex_df160_9 : decode cJ0_checkIndex_df160 9 = .ok (.return_, 1) := by decide +kernel
theorem dJ3_checkIndex_8e157_0 : decode cJ3_checkIndex_8e157 0 = .ok (.iload_n 0, 1) := by decide +kernel
theorem dJ3_checkIndex_8e157_1 : decode cJ3_checkIndex_8e157 1 = .ok (.ifCond .lt 8, 3) := by decide +kernel
theorem dJ3_checkIndex_8e157_4 : decode cJ3_checkIndex_8e157 4 = .ok (.iload_n 0, 1) := by decide +kernel
theorem dJ3_checkIndex_8e157_5 : decode cJ3_checkIndex_8e157 5 = .ok (.iload_n 1, 1) := by decide +kernel
theorem dJ3_checkIndex_8e157_6 : decode cJ3_checkIndex_8e157 6 = .ok (.if_icmp .lt 10, 3) := by decide +kernel
theorem dJ3_checkIndex_8e157_9 : decode cJ3_checkIndex_8e157 9 = .ok (.aload_n 2, 1) := by decide +kernel
theorem dJ3_checkIndex_8e157_10 : decode cJ3_checkIndex_8e157 10 = .ok (.iload_n 0, 1) := by decide +kernel
theorem dJ3_checkIndex_8e157_11 : decode cJ3_checkIndex_8e157 11 = .ok (.iload_n 1, 1) := by decide +kernel
theorem dJ3_checkIndex_8e157_12 : decode cJ3_checkIndex_8e157 12 = .ok (.invokestatic 95, 3) := by decide +kernel
theorem dJ3_checkIndex_8e157_15 : decode cJ3_checkIndex_8e157 15 = .ok (.athrow, 1) := by decide +kernel
theorem dJ3_checkIndex_8e157_16 : decode cJ3_checkIndex_8e157 16 = .ok (.iload_n 0, 1) := by decide +kernel
theorem dJ3_checkIndex_8e157_17 : decode cJ3_checkIndex_8e157 17 = .ok (.ireturn, 1) := by decide +kernel
theorem zv_239 : (Cond.fieldLink "java/lang/String" 1053 "jdk/internal/util/Preconditions" "SIOOBE_FORMATTER" "Ljava/util/function/BiFunction;") ∈ gwL := gwt_1 60 (by decide +kernel) rfl
theorem zv_241 : (Cond.methodLink "java/lang/String" 1059 yJ3_checkIndex_8e157) ∈ gwL := gwt_1 62 (by decide +kernel) rfl
theorem zv_242 : (Cond.static yJ3_checkIndex_8e157) ∈ gwL := gwt_1 63 (by decide +kernel) rfl
theorem zv_243 : (Cond.code yJ3_checkIndex_8e157 cJ3_checkIndex_8e157 3 (some .int)) ∈ gwL := gwt_1 64 (by decide +kernel) rfl
theorem zv_184 : (Cond.initialized "jdk/internal/util/Preconditions") ∈ gwL := gwt_1 5 (by decide +kernel) rfl
theorem zv_236 : (Cond.methodLink "java/lang/StringLatin1" 9 yJ0_checkIndex_df160) ∈ gwL := gwt_1 57 (by decide +kernel) rfl
theorem zv_237 : (Cond.static yJ0_checkIndex_df160) ∈ gwL := gwt_1 58 (by decide +kernel) rfl
theorem zv_238 : (Cond.code yJ0_checkIndex_df160 cJ0_checkIndex_df160 2 none) ∈ gwL := gwt_1 59 (by decide +kernel) rfl
theorem zv_182 : (Cond.initialized "java/lang/String") ∈ gwL := gwt_1 3 (by decide +kernel) rfl
theorem zv_223 : (Cond.fieldLink "java/lang/String" 38 "java/lang/String" "COMPACT_STRINGS" "Z") ∈ gwL := gwt_1 44 (by decide +kernel) rfl
theorem zv_1968 : (Cond.fieldLink "java/lang/String" 15 "java/lang/String" "code\x72" "B") ∈ gwL := gwt_8 109 (by decide +kernel) rfl
theorem zv_229 : (Cond.methodLink "java/lang/String" 492 yJ0_isLatin1_aae02) ∈ gwL := gwt_1 50 (by decide +kernel) rfl
theorem zv_230 : (Cond.instanceMethod yJ0_isLatin1_aae02) ∈ gwL := gwt_1 51 (by decide +kernel) rfl
theorem zv_231 : (Cond.selects "java/lang/String" yJ0_isLatin1_aae02 yJ0_isLatin1_aae02) ∈ gwL := gwt_1 52 (by decide +kernel) rfl
theorem zv_232 : (Cond.code yJ0_isLatin1_aae02 cJ0_isLatin1_aae02 1 (some .boolean)) ∈ gwL := gwt_1 53 (by decide +kernel) rfl
theorem zv_1967 : (Cond.fieldLink "java/lang/String" 9 "java/lang/String" "value" "[B") ∈ gwL := gwt_8 108 (by decide +kernel) rfl
theorem zv_233 : (Cond.methodLink "java/lang/String" 495 yJ1_charAt_3b067) ∈ gwL := gwt_1 54 (by decide +kernel) rfl
theorem zv_234 : (Cond.static yJ1_charAt_3b067) ∈ gwL := gwt_1 55 (by decide +kernel) rfl
theorem zv_235 : (Cond.code yJ1_charAt_3b067 cJ1_charAt_3b067 2 (some .char)) ∈ gwL := gwt_1 56 (by decide +kernel) rfl
theorem zv_183 : (Cond.initialized "java/lang/StringLatin1") ∈ gwL := gwt_1 4 (by decide +kernel) rfl
theorem zv_219 : (Cond.methodLink "java/lang/String" 335 yJ0_coder_7d493) ∈ gwL := gwt_1 40 (by decide +kernel) rfl
theorem zv_220 : (Cond.instanceMethod yJ0_coder_7d493) ∈ gwL := gwt_1 41 (by decide +kernel) rfl
theorem zv_221 : (Cond.selects "java/lang/String" yJ0_coder_7d493 yJ0_coder_7d493) ∈ gwL := gwt_1 42 (by decide +kernel) rfl
theorem zv_222 : (Cond.code yJ0_coder_7d493 cJ0_coder_7d493 1 (some .byte)) ∈ gwL := gwt_1 43 (by decide +kernel) rfl
def gTx : List Int32 := [103, 97, 116, 101, 32, 108, 105, 110, 107, 32, 103, 114, 111, 117, 112, 32, 101, 118, 101, 114, 121, 32, 100, 101, 108, 97, 121, 32, 107, 101, 101, 112, 115, 32, 115, 108, 111, 116, 115, 32, 109, 101, 109, 98, 101, 114, 32, 111, 102, 32, 119, 111, 114, 100, 32, 115, 104, 97, 114, 101, 32, 116, 114, 97, 99, 107, 32, 98, 121, 32, 108, 101, 115, 115, 32, 97, 116, 32, 117, 112, 32, 100, 111, 119, 110, 32, 99, 117, 116, 32, 109, 101, 110, 100, 32, 115, 112, 108, 105, 116, 32, 104, 101, 97, 108]
def gStr (q v : Nat) (A : Nat → Prop) (U : State) (H : Heap) : Prop := va_O "java/lang/String" q A U H ∧ va_OF "java/lang/String" "code\x72" "B" (.int 0) q A U H ∧ va_OF "java/lang/String" "value" "[B" (.ref v) q A U H ∧ va_T .byte v 105 (fun j => .int (gTx.getD j 0)) A U H ∧ va_Z "java/lang/String" "COMPACT_STRINGS" "Z" (.int 1) A U H ∧ va_Zq "jdk/internal/util/Preconditions" "SIOOBE_FORMATTER" "Ljava/util/function/BiFunction;" A U H
theorem gStr.moved {q v : Nat} {A : Nat → Prop} {u U : State} {H : Heap} (hvm : u.vm.Alike U.vm) (h : gStr q v A u H) : gStr q v A U H := ⟨va_O.moved hvm h.1, va_OF.moved hvm h.2.1, va_OF.moved hvm h.2.2.1, va_T.moved hvm h.2.2.2.1, va_Z.moved hvm h.2.2.2.2.1, va_Zq.moved hvm h.2.2.2.2.2⟩
theorem gStr.kept {q v : Nat} {A : Nat → Prop} {U : State} {H H1 : Heap} (h : gStr q v A U H) (hq : ∀ a : Nat, a < H.size → ¬ A a → H1[a]? = H[a]?) : gStr q v A U H1 := ⟨h.1.kept hq, h.2.1.kept hq, h.2.2.1.kept hq, h.2.2.2.1.kept hq, h.2.2.2.2.1.kept hq, h.2.2.2.2.2.kept hq⟩
def gPs (As : List Value) (q v B : Nat) : Array Value → State → Prop := fun a U => a = As.toArray ∧ gT U ∧ gStr q v (gA B) U U.heap
def gQs (r : Option Value) : Array Value → State → Outcome → State → Prop := fun _ st o t => o = .returned r ∧ t.heap = st.heap
def gMs (l : Launch) (y : MethodName) (cc : ByteArray) (nL : Nat) (ret : Option FieldType) (rf rn : Nat) (As : List Value) (q v B : Nat) (r : Option Value) : Prop := Met l y [.code y cc nL ret] (gRm rf rn) (gPs As q v B) (gQs r) 0 0 (fun _ => False)
theorem gPs_blind (As : List Value) (q v B : Nat) : FrameBlind (gPs As q v B) := by
  intro a U gg mk hq
  obtain ⟨h1, h2, h3⟩ := hq
  exact ⟨h1, gT.same h2 rfl, h3.moved (Vm.Alike.refl U.vm)⟩
theorem gPs_in {As : List Value} {q v B : Nat} {s : State} {H : Heap} {locs : List Loc} (hT : gT s) (hE : gStr q v (gA B) s s.heap) (hS : va_S (gA B) s.heap H locs) (U : State) (hU : U.heap = H) (hW : s.WarmedH U.vm) : gPs As q v B As.toArray U := ⟨rfl, hT.warm hW, by rw [hU]; exact (hE.kept hS.2.1).moved hW.alike⟩
theorem gsCall {p : Program} {l : Launch} {e : Env} {R : Room} {s : State} {m : MethodId} {args : Array Value} {below : List Frame} {meth : Method} {c : Code} {H : Heap} {locs : List Loc} {cells slots : Nat} {Q : State → Prop} {pc : Nat} {ls : Array Slot} {st0 rest : List Value} {a : Array Value} {r : Option Value}
    (hr : CallRun p l e R s m args below meth c H locs cells slots 0 0 (F0 m pc ls st0) rest (gQs r a) (fun _ => False)) (kk : W p l e R s m args below meth c H locs cells slots Q (F0 m (pc + 3) ls (r.toList ++ rest))) : W p l e R s m args below meth c H locs cells slots Q (F0 m pc ls st0) := by
  intro T hT X
  obtain ⟨v, st₀, t, T', L, h0, X', hL, e1, ⟨hv, hh⟩, st⟩ := hr T hT X
  cases hv
  obtain ⟨t2, a1, b1⟩ := kk T' (by rw [e1, hh, h0]) (Stand.forget X' (fun q h => (hL q h).elim))
  exact ⟨t2, st t2 a1, b1⟩
section GSR
variable {p : Program} {l : Launch} {e : Env} {R : Room} {s : State} {m : MethodId} {args : Array Value} {below : List Frame} {meth : Method} {c : Code} {H : Heap} {locs : List Loc} {cells slots : Nat} {Q : State → Prop} {pc : Nat} {ls : Array Slot} {cc : ByteArray} {own : String}
theorem gsS {idx nL nL1 rf rn k q v B : Nat} {y : MethodName} {c1 : ByteArray} {ret1 : Option FieldType} {r : Option Value} {As st sk : List Value} (hx : p.tables.exec = Jvm.exec) (hb : c.code = cc) (hml : c.maxLocals = nL) (hown : s.vm.findClass own = some m.cls) (hT : gT s) (hE : gStr q v (gA B) s s.heap) (hS : va_S (gA B) s.heap H locs) (hls : ls.size = nL) (hw : Cond.methodLink own idx y ∈ gwL) (hst : Cond.static y ∈ gwL) (hco : gCode y c1 nL1 ret1 k) (hR : rf + 1 ≤ R.frames ∧ 8 + (nL1 + 11) + rn ≤ R.locals) (hM : gMs l y c1 nL1 ret1 rf rn As q v B r) (hn : As.length = k) (hs : (st.map fun v => v.category).sum ≤ 8) (hd : decode cc pc = .ok (.invokestatic idx, 3)) (hc : cells ≤ R.cells ∧ slots ≤ R.slots) (hsk : sk = As.reverse ++ st)
    (kk : W p l e R s m args below meth c H locs cells slots Q (F0 m (pc + 3) ls (r.toList ++ st))) : W p l e R s m args below meth c H locs cells slots Q (F0 m pc ls sk) := by
  subst hsk
  obtain ⟨q1, q2, q3, q4, q5⟩ := hco
  exact gsCall (W.runS (As := As) (rest := st) (Ts := gwL) (n := k) (bytes := c1) (maxL := nL1) (ret := ret1) ⟨hx, hb, hml, hown, fun w hw => hT.use hw⟩ hM ⟨callB_of k (fun w hw => hT.use hw) (gGood q1) rfl rfl rfl (hT.use q2) (hT.use hw) ⟨q3, q4, q5⟩ hR, hT.use hst⟩ ⟨gPs_blind _ _ _ _, fun U hU hW => gPs_in hT hE hS U hU hW⟩ rfl hn hls rfl (lv_room hs) hd hc) kk
theorem gsV {idx nL nL1 rf rn k q v B : Nat} {y : MethodName} {c1 : ByteArray} {ret1 : Option FieldType} {r : Option Value} {As st sk : List Value} (hx : p.tables.exec = Jvm.exec) (hb : c.code = cc) (hml : c.maxLocals = nL) (hown : s.vm.findClass own = some m.cls) (hT : gT s) (hE : gStr q v (gA B) s s.heap) (hS : va_S (gA B) s.heap H locs) (hls : ls.size = nL) (hy : y.cls = "java/lang/String") (hw : Cond.methodLink own idx y ∈ gwL) (hin : Cond.instanceMethod y ∈ gwL) (hse : Cond.selects y.cls y y ∈ gwL) (hco : gCode y c1 nL1 ret1 k) (hR : rf + 1 ≤ R.frames ∧ 8 + (nL1 + 11) + rn ≤ R.locals) (hM : gMs l y c1 nL1 ret1 rf rn (.ref q :: As) q v B r) (hn : As.length = k) (hs : (st.map fun v => v.category).sum ≤ 8) (hd : decode cc pc = .ok (.invokevirtual idx, 3)) (hc : cells ≤ R.cells ∧ slots ≤ R.slots) (hsk : sk = As.reverse ++ .ref q :: st)
    (kk : W p l e R s m args below meth c H locs cells slots Q (F0 m (pc + 3) ls (r.toList ++ st))) : W p l e R s m args below meth c H locs cells slots Q (F0 m pc ls sk) := by
  subst hsk
  obtain ⟨q1, q2, q3, q4, q5⟩ := hco
  have hrec : ∃ cellB : Cell, H[q]? = some cellB ∧ cellB.vm.isStatics = false ∧ s.vm.findClass y.cls = some cellB.cls := by
    obtain ⟨cell, h1, h2, h3, -⟩ := hE.1.kept hS.2.1
    exact ⟨cell, h1, h2, by rw [hy]; exact h3⟩
  exact gsCall (W.runV (As := As) (rest := st) (b := q) (Ts := gwL) (n := k) (C := y.cls) (bytes := c1) (maxL := nL1) (ret := ret1) ⟨hx, hb, hml, hown, fun w hw => hT.use hw⟩ hM ⟨callB_of k (fun w hw => hT.use hw) (gGood q1) rfl rfl rfl (hT.use q2) (hT.use hw) ⟨q3, q4, q5⟩ hR, hT.use hin, hT.use hse⟩ ⟨gPs_blind _ _ _ _, hrec, fun U hU hW => gPs_in hT hE hS U hU hW⟩ rfl hn hls rfl (lv_room hs) hd hc) kk
end GSR
set_option maxRecDepth 100000 in
set_option maxHeartbeats 4000000 in
theorem ks_pcheck (l : Launch) {q v B : Nat} {i n : Int32} {fv : Value} (hfv : fv.category = 1) (h1 : ¬ i < 0) (h2 : i < n) : gMs l yJ3_checkIndex_8e157 cJ3_checkIndex_8e157 3 (some .int) 0 0 [.int i, .int n, fv] q v B (some (.int i)) := by
  refine Met.ofW (cc := cJ3_checkIndex_8e157) (maxL := 3) (ret := (some .int)) (by decide) rfl ?_
  intro p e s m args below meth c s₁ Bd hml hv
  obtain ⟨rfl, hT, hE⟩ := hv
  have hx := Bd.exec
  have hb := Bd.bytes
  have hr := Bd.returns
  have hlk := Bd.notSynchronized
  have hown : s.vm.findClass yJ3_checkIndex_8e157.cls = some m.cls := findClass_of_methodNamed Bd.named
  have hS : va_S (gA B) s.heap s.heap [] := va_S.rf
  have hl := lv_entry ([.int i, .int n, fv]) (n := 3) (by cases fv <;> simp_all [lg_sl, Value.category])
  rw [lg_entry_eq]
  generalize (lg_sl ([.int i, .int n, fv]) ++ List.replicate (3 - (lg_sl ([.int i, .int n, fv])).length) Slot.unset).toArray = ls at hl ⊢
  refine lv_iload_n hx hb dJ3_checkIndex_8e157_0 rfl (lv_at hl 0 rfl) ?_
  refine lv_if_lt (tgt := 9) hx hb dJ3_checkIndex_8e157_1 rfl (fun q => absurd q h1) (fun _ => ?_)
  refine lv_iload_n hx hb dJ3_checkIndex_8e157_4 rfl (lv_at hl 0 rfl) ?_
  refine lv_iload_n hx hb dJ3_checkIndex_8e157_5 rfl (lv_at hl 1 rfl) ?_
  refine lv_icmp_lt (tgt := 16) hx hb dJ3_checkIndex_8e157_6 rfl (fun _ => ?_) (fun q => absurd h2 q)
  refine lv_iload_n hx hb dJ3_checkIndex_8e157_16 rfl (lv_at hl 0 rfl) ?_
  exact W.iret hx hb hr (fun t ht _ => ⟨rfl, ht⟩) (fun _ h => by cases h) dJ3_checkIndex_8e157_17 hlk

set_option maxRecDepth 100000 in
set_option maxHeartbeats 4000000 in
theorem ks_check (l : Launch) {q v B : Nat} {i n : Int32} (h1 : ¬ i < 0) (h2 : i < n) : gMs l yJ0_checkIndex_df160 cJ0_checkIndex_df160 2 none 1 30 [.int i, .int n] q v B none := by
  refine Met.ofW (cc := cJ0_checkIndex_df160) (maxL := 2) (ret := none) (by decide) rfl ?_
  intro p e s m args below meth c s₁ Bd hml hv
  obtain ⟨rfl, hT, hE⟩ := hv
  have hx := Bd.exec
  have hb := Bd.bytes
  have hr := Bd.returns
  have hlk := Bd.notSynchronized
  have hown : s.vm.findClass yJ0_checkIndex_df160.cls = some m.cls := findClass_of_methodNamed Bd.named
  have hS : va_S (gA B) s.heap s.heap [] := va_S.rf
  have hl := lv_entry ([.int i, .int n]) (n := 2) (Nat.le_of_ble_eq_true rfl)
  rw [lg_entry_eq]
  generalize (lg_sl ([.int i, .int n]) ++ List.replicate (2 - (lg_sl ([.int i, .int n])).length) Slot.unset).toArray = ls at hl ⊢
  obtain ⟨fv, hZ, hfv⟩ : ∃ fv : Value, va_Z "jdk/internal/util/Preconditions" "SIOOBE_FORMATTER" "Ljava/util/function/BiFunction;" fv (gA B) s s.heap ∧ fv.category = 1 := by
    rcases hE.2.2.2.2.2 with h | ⟨t, h⟩
    · exact ⟨_, h, rfl⟩
    · exact ⟨_, h, rfl⟩
  refine lv_iload_n hx hb dJ0_checkIndex_df160_0 rfl (lv_at hl 0 rfl) ?_
  refine lv_iload_n hx hb dJ0_checkIndex_df160_1 rfl (lv_at hl 1 rfl) ?_
  refine va_gets hx hb hZ hS hown (hT.use zv_239) (fun _ h => h) dJ0_checkIndex_df160_2 ?_
  refine gsS (rf := 0) (rn := 0) (As := [.int i, .int n, fv]) (st := []) (k := 3) hx hb hml hown hT hE hS hl.1 zv_241 zv_242 ⟨zv_243, zv_184, by decide +kernel, by decide +kernel, by decide +kernel⟩ ⟨by decide, by decide⟩ (ks_pcheck l hfv h1 h2) rfl (Nat.le_of_ble_eq_true rfl) dJ0_checkIndex_df160_5 ⟨Nat.zero_le _, Nat.zero_le _⟩ rfl ?_
  refine lv_pop (va := .int i) hx hb dJ0_checkIndex_df160_8 rfl ?_
  exact W.vret hx hb hr (fun t ht _ => ⟨rfl, ht⟩) (fun _ h => by cases h) dJ0_checkIndex_df160_9 hlk

set_option maxRecDepth 100000 in
set_option maxHeartbeats 4000000 in
theorem ks_lcharAt (l : Launch) {q v B : Nat} {k : Nat} (hk : k < 105) : gMs l yJ1_charAt_3b067 cJ1_charAt_3b067 2 (some .char) 2 60 [.ref v, .int (nI k)] q v B (some (.int (gTx.getD k 0))) := by
  refine Met.ofW (cc := cJ1_charAt_3b067) (maxL := 2) (ret := (some .char)) (by decide) rfl ?_
  intro p e s m args below meth c s₁ Bd hml hv
  obtain ⟨rfl, hT, hE⟩ := hv
  have hx := Bd.exec
  have hb := Bd.bytes
  have hr := Bd.returns
  have hlk := Bd.notSynchronized
  have hown : s.vm.findClass yJ1_charAt_3b067.cls = some m.cls := findClass_of_methodNamed Bd.named
  have hS : va_S (gA B) s.heap s.heap [] := va_S.rf
  have hl := lv_entry ([.ref v, .int (nI k)]) (n := 2) (Nat.le_of_ble_eq_true rfl)
  rw [lg_entry_eq]
  generalize (lg_sl ([.ref v, .int (nI k)]) ++ List.replicate (2 - (lg_sl ([.ref v, .int (nI k)])).length) Slot.unset).toArray = ls at hl ⊢
  have hn0 : ¬ nI k < 0 := nI_pos (by omega)
  have hn1 : nI k < 105 := nI_lt (a := k) (b := 105) hk (by decide)
  refine lv_iload_n hx hb dJ1_charAt_3b067_0 rfl (lv_at hl 1 rfl) ?_
  refine lv_aload_n hx hb dJ1_charAt_3b067_1 rfl (lv_at hl 0 rfl) ?_
  refine va_tlen hx hb hE.2.2.2.1 hS (v := 105) (by decide) dJ1_charAt_3b067_2 ?_
  refine gsS (rf := 1) (rn := 30) (As := [.int (nI k), .int 105]) (st := []) (k := 2) hx hb hml hown hT hE hS hl.1 zv_236 zv_237 ⟨zv_238, zv_182, by decide +kernel, by decide +kernel, by decide +kernel⟩ ⟨by decide, by decide⟩ (ks_check l hn0 hn1) rfl (Nat.le_of_ble_eq_true rfl) dJ1_charAt_3b067_3 ⟨Nat.zero_le _, Nat.zero_le _⟩ rfl ?_
  refine lv_aload_n hx hb dJ1_charAt_3b067_6 rfl (lv_at hl 0 rfl) ?_
  refine lv_iload_n hx hb dJ1_charAt_3b067_7 rfl (lv_at hl 1 rfl) ?_
  refine va_tb hx hb hE.2.2.2.1 hS (vp_in_nI hk (by decide)) (v := .int (gTx.getD k 0)) (by rw [nI_clamp (by omega)]) dJ1_charAt_3b067_8 ?_
  refine lv_sipush (v := 255) hx hb dJ1_charAt_3b067_9 (by decide) ?_
  refine lv_iand hx hb dJ1_charAt_3b067_12 ?_
  have e1 : ∀ j, j < 105 → gTx.getD j 0 &&& 255 = gTx.getD j 0 := by decide +kernel
  rw [e1 k hk]
  have e2 : ∀ j, j < 105 → ((gTx.getD j 0).toUInt32 % 65536).toInt32 = gTx.getD j 0 := by decide +kernel
  have e3 : ∀ j, j < 105 → narrow .char (.int (gTx.getD j 0)) = .int (gTx.getD j 0) := fun j hj => by
    rw [← e2 j hj]; exact pk_nc _
  refine lv_i2c hx hb dJ1_charAt_3b067_13 (e2 k hk) ?_
  exact W.zret hx hb hr (e3 k hk) (fun t ht _ => ⟨rfl, ht⟩) (fun _ h => by cases h) dJ1_charAt_3b067_14 hlk

set_option maxRecDepth 100000 in
set_option maxHeartbeats 4000000 in
theorem ks_isLatin1 (l : Launch) {q v B : Nat} : gMs l yJ0_isLatin1_aae02 cJ0_isLatin1_aae02 1 (some .boolean) 0 0 [.ref q] q v B (some (.int 1)) := by
  refine Met.ofW (cc := cJ0_isLatin1_aae02) (maxL := 1) (ret := (some .boolean)) (by decide) rfl ?_
  intro p e s m args below meth c s₁ Bd hml hv
  obtain ⟨rfl, hT, hE⟩ := hv
  have hx := Bd.exec
  have hb := Bd.bytes
  have hr := Bd.returns
  have hlk := Bd.notSynchronized
  have hown : s.vm.findClass yJ0_isLatin1_aae02.cls = some m.cls := findClass_of_methodNamed Bd.named
  have hS : va_S (gA B) s.heap s.heap [] := va_S.rf
  have hl := lv_entry ([.ref q]) (n := 1) (Nat.le_of_ble_eq_true rfl)
  rw [lg_entry_eq]
  generalize (lg_sl ([.ref q]) ++ List.replicate (1 - (lg_sl ([.ref q])).length) Slot.unset).toArray = ls at hl ⊢
  refine va_gets hx hb hE.2.2.2.2.1 hS hown (hT.use zv_223) (fun _ h => h) dJ0_isLatin1_aae02_0 ?_
  refine lv_if_eq (tgt := 17) hx hb dJ0_isLatin1_aae02_3 rfl (fun z => absurd z (by decide)) (fun _ => ?_)
  refine lv_aload_n hx hb dJ0_isLatin1_aae02_6 rfl (lv_at hl 0 rfl) ?_
  refine vk_getf hx hb hE.2.1 hS hown (hT.use zv_1968) (fun _ h => h) dJ0_isLatin1_aae02_7 ?_
  refine lv_if_ne (tgt := 17) hx hb dJ0_isLatin1_aae02_10 rfl (fun z => absurd rfl z) (fun _ => ?_)
  refine lv_iconst (v := 1) hx hb dJ0_isLatin1_aae02_13 (by decide) ?_
  refine lv_goto (tgt := 18) hx hb dJ0_isLatin1_aae02_14 rfl ?_
  exact W.zret hx hb hr rfl (fun t ht _ => ⟨rfl, ht⟩) (fun _ h => by cases h) dJ0_isLatin1_aae02_18 hlk

set_option maxRecDepth 100000 in
set_option maxHeartbeats 4000000 in
theorem ks_coder (l : Launch) {q v B : Nat} : gMs l yJ0_coder_7d493 cJ0_coder_7d493 1 (some .byte) 0 0 [.ref q] q v B (some (.int 0)) := by
  refine Met.ofW (cc := cJ0_coder_7d493) (maxL := 1) (ret := (some .byte)) (by decide) rfl ?_
  intro p e s m args below meth c s₁ Bd hml hv
  obtain ⟨rfl, hT, hE⟩ := hv
  have hx := Bd.exec
  have hb := Bd.bytes
  have hr := Bd.returns
  have hlk := Bd.notSynchronized
  have hown : s.vm.findClass yJ0_coder_7d493.cls = some m.cls := findClass_of_methodNamed Bd.named
  have hS : va_S (gA B) s.heap s.heap [] := va_S.rf
  have hl := lv_entry ([.ref q]) (n := 1) (Nat.le_of_ble_eq_true rfl)
  rw [lg_entry_eq]
  generalize (lg_sl ([.ref q]) ++ List.replicate (1 - (lg_sl ([.ref q])).length) Slot.unset).toArray = ls at hl ⊢
  refine va_gets hx hb hE.2.2.2.2.1 hS hown (hT.use zv_223) (fun _ h => h) dJ0_coder_7d493_0 ?_
  refine lv_if_eq (tgt := 13) hx hb dJ0_coder_7d493_3 rfl (fun z => absurd z (by decide)) (fun _ => ?_)
  refine lv_aload_n hx hb dJ0_coder_7d493_6 rfl (lv_at hl 0 rfl) ?_
  refine vk_getf hx hb hE.2.1 hS hown (hT.use zv_1968) (fun _ h => h) dJ0_coder_7d493_7 ?_
  refine lv_goto (tgt := 14) hx hb dJ0_coder_7d493_10 rfl ?_
  exact W.zret hx hb hr rfl (fun t ht _ => ⟨rfl, ht⟩) (fun _ h => by cases h) dJ0_coder_7d493_14 hlk

set_option maxRecDepth 100000 in
set_option maxHeartbeats 4000000 in
theorem ks_charAt (l : Launch) {q v B : Nat} {k : Nat} (hk : k < 105) : gMs l yJ0_charAt_5068e cJ0_charAt_5068e 2 (some .char) 3 90 [.ref q, .int (nI k)] q v B (some (.int (gTx.getD k 0))) := by
  refine Met.ofW (cc := cJ0_charAt_5068e) (maxL := 2) (ret := (some .char)) (by decide) rfl ?_
  intro p e s m args below meth c s₁ Bd hml hv
  obtain ⟨rfl, hT, hE⟩ := hv
  have hx := Bd.exec
  have hb := Bd.bytes
  have hr := Bd.returns
  have hlk := Bd.notSynchronized
  have hown : s.vm.findClass yJ0_charAt_5068e.cls = some m.cls := findClass_of_methodNamed Bd.named
  have hS : va_S (gA B) s.heap s.heap [] := va_S.rf
  have hl := lv_entry ([.ref q, .int (nI k)]) (n := 2) (Nat.le_of_ble_eq_true rfl)
  rw [lg_entry_eq]
  generalize (lg_sl ([.ref q, .int (nI k)]) ++ List.replicate (2 - (lg_sl ([.ref q, .int (nI k)])).length) Slot.unset).toArray = ls at hl ⊢
  refine lv_aload_n hx hb dJ0_charAt_5068e_0 rfl (lv_at hl 0 rfl) ?_
  refine gsV (rf := 0) (rn := 0) (As := []) (st := []) (k := 0) hx hb hml hown hT hE hS hl.1 rfl zv_229 zv_230 zv_231 ⟨zv_232, zv_182, by decide +kernel, by decide +kernel, by decide +kernel⟩ ⟨by decide, by decide⟩ (ks_isLatin1 l) rfl (Nat.le_of_ble_eq_true rfl) dJ0_charAt_5068e_1 ⟨Nat.zero_le _, Nat.zero_le _⟩ rfl ?_
  refine lv_if_eq (x := 1) (tgt := 16) hx hb dJ0_charAt_5068e_4 rfl (fun z => absurd z (by decide)) (fun _ => ?_)
  refine lv_aload_n hx hb dJ0_charAt_5068e_7 rfl (lv_at hl 0 rfl) ?_
  refine vk_getf hx hb hE.2.2.1 hS hown (hT.use zv_1967) (fun _ h => h) dJ0_charAt_5068e_8 ?_
  refine lv_iload_n hx hb dJ0_charAt_5068e_11 rfl (lv_at hl 1 rfl) ?_
  refine gsS (rf := 2) (rn := 60) (As := [.ref v, .int (nI k)]) (st := []) (k := 2) hx hb hml hown hT hE hS hl.1 zv_233 zv_234 ⟨zv_235, zv_183, by decide +kernel, by decide +kernel, by decide +kernel⟩ ⟨by decide, by decide⟩ (ks_lcharAt l hk) rfl (Nat.le_of_ble_eq_true rfl) dJ0_charAt_5068e_12 ⟨Nat.zero_le _, Nat.zero_le _⟩ rfl ?_
  have e2 : ∀ j, j < 105 → ((gTx.getD j 0).toUInt32 % 65536).toInt32 = gTx.getD j 0 := by decide +kernel
  have e3 : ∀ j, j < 105 → narrow .char (.int (gTx.getD j 0)) = .int (gTx.getD j 0) := fun j hj => by
    rw [← e2 j hj]; exact pk_nc _
  exact W.zret hx hb hr (e3 k hk) (fun t ht _ => ⟨rfl, ht⟩) (fun _ h => by cases h) dJ0_charAt_5068e_15 hlk

set_option maxRecDepth 100000 in
set_option maxHeartbeats 4000000 in
theorem ks_length (l : Launch) {q v B : Nat} : gMs l yJ0_length_8abf5 cJ0_length_8abf5 1 (some .int) 1 30 [.ref q] q v B (some (.int 105)) := by
  refine Met.ofW (cc := cJ0_length_8abf5) (maxL := 1) (ret := (some .int)) (by decide) rfl ?_
  intro p e s m args below meth c s₁ Bd hml hv
  obtain ⟨rfl, hT, hE⟩ := hv
  have hx := Bd.exec
  have hb := Bd.bytes
  have hr := Bd.returns
  have hlk := Bd.notSynchronized
  have hown : s.vm.findClass yJ0_length_8abf5.cls = some m.cls := findClass_of_methodNamed Bd.named
  have hS : va_S (gA B) s.heap s.heap [] := va_S.rf
  have hl := lv_entry ([.ref q]) (n := 1) (Nat.le_of_ble_eq_true rfl)
  rw [lg_entry_eq]
  generalize (lg_sl ([.ref q]) ++ List.replicate (1 - (lg_sl ([.ref q])).length) Slot.unset).toArray = ls at hl ⊢
  refine lv_aload_n hx hb dJ0_length_8abf5_0 rfl (lv_at hl 0 rfl) ?_
  refine vk_getf hx hb hE.2.2.1 hS hown (hT.use zv_1967) (fun _ h => h) dJ0_length_8abf5_1 ?_
  refine va_tlen hx hb hE.2.2.2.1 hS (v := 105) (by decide) dJ0_length_8abf5_4 ?_
  refine lv_aload_n hx hb dJ0_length_8abf5_5 rfl (lv_at hl 0 rfl) ?_
  refine gsV (rf := 0) (rn := 0) (As := []) (st := [.int 105]) (k := 0) hx hb hml hown hT hE hS hl.1 rfl zv_219 zv_220 zv_221 ⟨zv_222, zv_182, by decide +kernel, by decide +kernel, by decide +kernel⟩ ⟨by decide, by decide⟩ (ks_coder l) rfl (Nat.le_of_ble_eq_true rfl) dJ0_length_8abf5_6 ⟨Nat.zero_le _, Nat.zero_le _⟩ rfl ?_
  refine lv_ishr (x := 105) (y := 0) hx hb dJ0_length_8abf5_9 ?_
  exact W.iret hx hb hr (fun t ht _ => ⟨by rfl, ht⟩) (fun _ h => by cases h) dJ0_length_8abf5_10 hlk

