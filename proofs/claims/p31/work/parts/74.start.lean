theorem lw_in {w : Cond} (i : Nat) (h : lw_tbl[i]? = some w) : w ∈ lw_tbl := List.mem_of_getElem? h
theorem gw_sub {w : Cond} (h : w ∈ gwL) : w ∈ lw_tbl := (List.mem_filter.mp h).1
section GWN
variable {p : Program} {l : Launch} {en : Env} {R : Room} {s : State} {m : MethodId} {args : Array Value} {below : List Frame} {meth : Method} {co : Code} {H : Heap} {locs : List Loc} {ce sl : Nat} {Q : State → Prop} {pc : Nat} {ls : Array Slot} {cc : ByteArray} {own : String} {st : List Value} {g : gG} {n : Nat} {e : Nat → va_E}
theorem gW_new {c idx N : Nat} {C : String} {T : u_T} {ty : Nat → FieldType} {fs : List Value} (hx : p.tables.exec = Jvm.exec) (hb : co.code = cc) (hown : s.vm.findClass own = some m.cls) (hk : gK g s) (hH : H.size = g.1 + n) (hP : va_P g.2.1 vwCl (gWc g n e) H) (hS : va_S (gA g.1) s.heap H locs) (hc : vwCl[c]? = some (C, T, N)) (hws : ∀ w ∈ u_ws C T N, w ∈ gwL) (hty : ∀ k, k < N → parseFieldDescriptor (T k).2.2.1 = some (ty k)) (hw : Cond.classLink own idx C ∈ gwL) (hin : Cond.instantiable C N ∈ gwL) (hini : Cond.initialized C ∈ gwL) (hfs : ∀ j, j < N → defaultValue (ty j) = vp_V fs j) (hrc : ce + 1 ≤ R.cells) (hrs : sl + N ≤ R.slots) (hd : decode cc pc = .ok (.new idx, 3))
    (kk : ∀ H1 : Heap, H1.size = g.1 + (n + 1) → va_P g.2.1 vwCl (gWc g (n + 1) (va_up e n (.inr (c, fs)))) H1 → va_S (gA g.1) s.heap H1 locs → W p l en R s m args below meth co H1 locs (ce + 1) (sl + N) Q (F0 m (pc + 3) ls (.ref (g.1 + n) :: st))) : W p l en R s m args below meth co H locs ce sl Q (F0 m pc ls st) := by
  have hKn := hk.1.1 c _ hc
  refine W.newcK hx hb hown (hk.2.use hw) (hk.2.use hin) (hk.2.use hini) rfl hd hrc hrs hKn.2.1 hH fun H1 kC hkC e1 z1 o1 => ?_
  have hkk : ∀ (k : Nat) (x : Nat × va_E), (gWc g n e)[k]? = some x → H1[x.1]? = H[x.1]? := fun k x hx => o1 x.1 (by rw [← hH]; exact (hP k x hx).lt)
  refine kk H1 (by omega) ?_ ⟨Nat.le_trans hS.1 (by omega), fun x h1 h2 => (o1 x (by have := hS.1; omega)).trans (hS.2.1 x h1 h2), hS.2.2⟩
  rw [← gWc_push]
  refine (hP.kept hkk).app (fun k x hx => ?_)
  have hz : k < 1 := (List.getElem?_eq_some_iff.mp hx).1
  rw [show k = 0 by omega] at hx
  cases hx
  exact ⟨_, hc, (u_born ty (ws := u_ws C T N) (fun w hw => hk.2.use (A := args) (hws w hw)) (fun _ h => h) hKn hkC e1 hty).to hfs⟩
theorem gW_ctor {idx k1 nL nL1 rf rn mc1 ms1 b : Nat} {y : MethodName} {c1 : ByteArray} {As sk : List Value} {n1 : Nat} {e1 : Nat → va_E} {Pc : Array Value → State → Prop} (hx : p.tables.exec = Jvm.exec) (hb : co.code = cc) (hml : co.maxLocals = nL) (hls : ls.size = nL) (hown : s.vm.findClass own = some m.cls) (hk : gK g s) (hs0 : s.heap.size = g.1) (hce : ce = n) (hS : va_S (gA g.1) s.heap H locs) (hbl : FrameBlind Pc) (hpre : ∀ U : State, U.heap = H → s.WarmedH U.vm → Pc (Value.ref (g.1 + b) :: As).toArray U) (hw : Cond.methodLink own idx y ∈ gwL) (hin : Cond.instanceMethod y ∈ gwL) (hco : gCode y c1 nL1 none k1) (hy : y.name = "<init>") (hR : rf + 1 ≤ R.frames ∧ 8 + (nL1 + 11) + rn ≤ R.locals) (hM : Met l y [.code y c1 nL1 none] (gRk rf mc1 ms1 rn) Pc (gQk g n1 e1) mc1 ms1 (gA g.1)) (hn : As.length = k1) (hs : (st.map fun v => v.category).sum ≤ 8) (hrc : ce + mc1 ≤ R.cells) (hrs : sl + ms1 ≤ R.slots) (hnn : n + mc1 = n1) (hpos : 0 < n1) (hd : decode cc pc = .ok (.invokespecial idx, 3)) (hsk : sk = As.reverse ++ .ref (g.1 + b) :: st)
    (kk : ∀ (H1 : Heap) (locs1 : List Loc), H1.size = g.1 + n1 → va_P g.2.1 vwCl (gWc g n1 e1) H1 → va_S (gA g.1) s.heap H1 locs1 → W p l en R s m args below meth co H1 locs1 (ce + mc1) (sl + ms1) Q (F0 m (pc + 3) ls st)) : W p l en R s m args below meth co H locs ce sl Q (F0 m pc ls sk) := by
  subst hsk
  obtain ⟨q1, q2, q3, q4, q5⟩ := hco
  have hrun := va_runI (As := As) (rest := st) (b := g.1 + b) (Ts := gwL) (n := k1) (bytes := c1) (maxL := nL1) ⟨hx, hb, hml, hown, fun w hw => hk.2.use hw⟩ hM ⟨callB_of k1 (fun w hw => hk.2.use hw) (gGood q1) rfl rfl rfl (hk.2.use q2) (hk.2.use hw) ⟨q3, q4, q5⟩ hR, hy, hk.2.use hin⟩ ⟨hbl, hpre⟩ (g := F0 m pc ls (As.reverse ++ .ref (g.1 + b) :: st)) (H := H) (locs := locs) (cells := ce) (slots := sl) (below := below) (e := en) (meth := meth) (args := args) rfl hn hls rfl (lv_room hs) hd ⟨hrc, hrs⟩
  intro T hT X
  obtain ⟨v, st₀, t, T', Lo, h0, X', hLo, f1, f2, ⟨hv, hw1, hz, hq⟩, stp⟩ := hrun T hT X
  cases hv
  rw [h0] at hz hq
  have hP1 : va_P g.2.1 vwCl (gWc g n1 e1) T'.heap := by rw [f1]; exact hw1
  have hsz : T'.heap.size = g.1 + n1 := by
    have h1 := X'.heapSize
    have h2 : g.1 + (n1 - 1) < T'.heap.size := (hP1 (n1 - 1) _ (gWc_at g e1 (by omega))).lt
    omega
  obtain ⟨t2, a1, b1⟩ := kk T'.heap (locs ++ Lo) hsz hP1
    ⟨Nat.le_trans hS.1 (by rw [f1]; exact hz), fun q h1 h2 => by rw [f1, hq q (Nat.lt_of_lt_of_le h1 hS.1) h2]; exact hS.2.1 q h1 h2, fun q hq => by
      rcases List.mem_append.mp hq with h | h
      · exact hS.2.2 q h
      · exact hLo q h⟩ T' rfl X'
  exact ⟨t2, stp t2 a1, b1⟩
end GWN
set_option maxRecDepth 100000 in
set_option maxHeartbeats 4000000 in
theorem gl_ctx {p : Program} {s : State} {m : MethodId} {meth : Method} {c : Code} {b Ls : Nat} {xs : Nat → Int32} (C0 : lw_At p s m meth c b Ls xs) : ∃ (D : va_G) (X : Nat → ClassId) (q v : Nat), gKC (s.heap.size, D, X) s ∧ gStr q v (gA s.heap.size) s s.heap ∧ vk_R RX7 22 gText q s := by
  obtain ⟨hx, hb, hr, hml, hown, hts, hX, hbl, hlocks, hgv⟩ := C0
  have hT : gT s := fun w hw => va_tabs (gw_tab hw) rfl (hts w (gw_sub hw))
  have hA : ∀ a : Nat, a < s.heap.size → ¬ gA s.heap.size a := fun a h => Nat.not_le.mpr h
  obtain ⟨c0, i0, hk0⟩ := u_known (C := RX0) (T := TX0) (N := 3) (n := 3) (ws := u_ws RX0 TX0 3) (fun w hw => hT.use (A := #[Value.ref b]) (zu_X0 w hw)) (fun _ h => h) (hts (.instantiable RX0 3) (lw_in 443 (by decide +kernel)))
  obtain ⟨c1, i1, hk1⟩ := u_known (C := RX1) (T := TX1) (N := 14) (n := 14) (ws := u_ws RX1 TX1 14) (fun w hw => hT.use (A := #[Value.ref b]) (zu_X1 w hw)) (fun _ h => h) (hts (.instantiable RX1 14) (lw_in 300 (by decide +kernel)))
  obtain ⟨c2, i2, hk2⟩ := u_known (C := RX2) (T := TX2) (N := 2) (n := 2) (ws := u_ws RX2 TX2 2) (fun w hw => hT.use (A := #[Value.ref b]) (zu_X2 w hw)) (fun _ h => h) (hts (.instantiable RX2 2) (lw_in 383 (by decide +kernel)))
  obtain ⟨c3, i3, hk3⟩ := u_known (C := RX3) (T := TX3) (N := 3) (n := 3) (ws := u_ws RX3 TX3 3) (fun w hw => hT.use (A := #[Value.ref b]) (zu_X3 w hw)) (fun _ h => h) (hts (.instantiable RX3 3) (lw_in 617 (by decide +kernel)))
  obtain ⟨c4, i4, hk4⟩ := u_known (C := RX4) (T := TX4) (N := 5) (n := 5) (ws := u_ws RX4 TX4 5) (fun w hw => hT.use (A := #[Value.ref b]) (zu_X4 w hw)) (fun _ h => h) (hts (.instantiable RX4 5) (lw_in 591 (by decide +kernel)))
  obtain ⟨c5, i5, hk5⟩ := u_known (C := RX5) (T := TX5) (N := 2) (n := 2) (ws := u_ws RX5 TX5 2) (fun w hw => hT.use (A := #[Value.ref b]) (zu_X5 w hw)) (fun _ h => h) (hts (.instantiable RX5 2) (lw_in 405 (by decide +kernel)))
  obtain ⟨c6, i6, hk6⟩ := u_known (C := RX6) (T := TX6) (N := 3) (n := 3) (ws := u_ws RX6 TX6 3) (fun w hw => hT.use (A := #[Value.ref b]) (zu_X6 w hw)) (fun _ h => h) (hts (.instantiable RX6 3) (lw_in 399 (by decide +kernel)))
  obtain ⟨c7, i7, hk7⟩ := u_known (C := RX7) (T := TX7) (N := 9) (n := 9) (ws := u_ws RX7 TX7 9) (fun w hw => hT.use (A := #[Value.ref b]) (zu_X7 w hw)) (fun _ h => h) (hts (.instantiable RX7 9) (lw_in 209 (by decide +kernel)))
  obtain ⟨c8, i8, hk8⟩ := u_known (C := RX8) (T := TX8) (N := 4) (n := 4) (ws := u_ws RX8 TX8 4) (fun w hw => hT.use (A := #[Value.ref b]) (zu_X8 w hw)) (fun _ h => h) (hts (.instantiable RX8 4) (lw_in 637 (by decide +kernel)))
  obtain ⟨c9, i9, hk9⟩ := u_known (C := RX9) (T := TX9) (N := 20) (n := 20) (ws := u_ws RX9 TX9 20) (fun w hw => hT.use (A := #[Value.ref b]) (zu_X9 w hw)) (fun _ h => h) (hts (.instantiable RX9 20) (lw_in 435 (by decide +kernel)))
  obtain ⟨c10, i10, hk10⟩ := u_known (C := RX10) (T := TX10) (N := 5) (n := 5) (ws := u_ws RX10 TX10 5) (fun w hw => hT.use (A := #[Value.ref b]) (zu_X10 w hw)) (fun _ h => h) (hts (.instantiable RX10 5) (lw_in 568 (by decide +kernel)))
  obtain ⟨c11, i11, hk11⟩ := u_known (C := RX11) (T := TX11) (N := 9) (n := 9) (ws := u_ws RX11 TX11 9) (fun w hw => hT.use (A := #[Value.ref b]) (zu_X11 w hw)) (fun _ h => h) (hts (.instantiable RX11 9) (lw_in 201 (by decide +kernel)))
  obtain ⟨c12, i12, hk12⟩ := u_known (C := RX12) (T := TX12) (N := 27) (n := 27) (ws := u_ws RX12 TX12 27) (fun w hw => hT.use (A := #[Value.ref b]) (zu_X12 w hw)) (fun _ h => h) (hts (.instantiable RX12 27) (lw_in 1357 (by decide +kernel)))
  have wI : (Cond.arrayClass .int).before #[Value.ref b] s = true := hts _ (lw_in 297 (by decide +kernel))
  obtain ⟨xI, kI, mI, fI1, fI2, fI3⟩ := Cond.arrayClass_spec wI
  have wB : (Cond.arrayClass .byte).before #[Value.ref b] s = true := hts _ (lw_in 298 (by decide +kernel))
  obtain ⟨xB, kB, mB, fB1, fB2, fB3⟩ := Cond.arrayClass_spec wB
  have wZ : (Cond.arrayClass .boolean).before #[Value.ref b] s = true := hts _ (lw_in 1444 (by decide +kernel))
  obtain ⟨xZ, kZ, mZ, fZ1, fZ2, fZ3⟩ := Cond.arrayClass_spec wZ
  have wS : (Cond.arrayOver (.object RX9)).before #[Value.ref b] s = true := hts _ (lw_in 597 (by decide +kernel))
  obtain ⟨mS, xS, kS, fS1, -, fS2, fS3, fS4⟩ := Cond.arrayOver_spec wS
  refine ⟨(fun k => [c0, c1, c2, c3, c4, c5, c6, c7, c8, c9, c10, c11, c12].getD k 0, fun k => [i0, i1, i2, i3, i4, i5, i6, i7, i8, i9, i10, i11, i12].getD k (fun _ => 0)), fun k => [xI, xB, xZ, xS].getD k 0, ?_⟩
  have hK : va_K (fun k => [c0, c1, c2, c3, c4, c5, c6, c7, c8, c9, c10, c11, c12].getD k 0, fun k => [i0, i1, i2, i3, i4, i5, i6, i7, i8, i9, i10, i11, i12].getD k (fun _ => 0)) vwCl (gTy (fun k => [xI, xB, xZ, xS].getD k 0)) s := by
    refine ⟨fun k q hq => ?_, fun k q hq => ?_⟩
    · match k, hq with
      | 0, hq => cases hq; exact hk0
      | 1, hq => cases hq; exact hk1
      | 2, hq => cases hq; exact hk2
      | 3, hq => cases hq; exact hk3
      | 4, hq => cases hq; exact hk4
      | 5, hq => cases hq; exact hk5
      | 6, hq => cases hq; exact hk6
      | 7, hq => cases hq; exact hk7
      | 8, hq => cases hq; exact hk8
      | 9, hq => cases hq; exact hk9
      | 10, hq => cases hq; exact hk10
      | 11, hq => cases hq; exact hk11
      | 12, hq => cases hq; exact hk12
      | k + 13, hq => simp [vwCl] at hq
    · match k, hq with
      | 0, hq => cases hq; exact ⟨fun n z => ⟨fun k h => (by cases h), kI, fI2, mI, fI3⟩, fI1⟩
      | 1, hq => cases hq; exact ⟨fun n z => ⟨fun k h => (by cases h), kB, fB2, mB, fB3⟩, fB1⟩
      | 2, hq => cases hq; exact ⟨fun n z => ⟨fun k h => (by cases h), kZ, fZ2, mZ, fZ3⟩, fZ1⟩
      | 3, hq => cases hq; exact ⟨fun n z => ⟨fun k h => (by cases h), kS, fS2, mS, fS3⟩, kS, mS, fS2, fS3, fS1, fS4⟩
      | k + 4, hq => simp [gTy] at hq
  have hfl := flat_of_before _ hgv
  obtain ⟨adK, adV, hV, hev⟩ := vk_Sof (args := #[Value.ref b]) (s := s) (N := 1) (tm := fun _ => Term.string "GateGroup$Reade\x72" 22) (len := [105]) (byt := [gTx]) (A := gA s.heap.size)
    (fun i hi => by obtain rfl : i = 0 := by omega
                    decide)
    (fun i hi => hfl _ (by decide +kernel)) (fun i hi => hfl _ (by decide +kernel)) (fun i hi => hfl _ (by decide +kernel))
    (fun i hi => by obtain rfl : i = 0 := by omega
                    exact hfl _ (by decide +kernel))
    (fun i hi => by
      obtain rfl : i = 0 := by omega
      have h1 : ∀ j, j < 105 → (Cond.eq (.elem (.field (Term.string "GateGroup$Reade\x72" 22) "java/lang/String" "value" "[B") (.int (Int32.ofNat j))) (.int (gTx.getD j 0))) ∈ flatC (Jvm.Cond.and given_1 narrow_1) := by decide +kernel
      exact fun j hj => hfl _ (h1 j hj))
    (fun i j hi hj hij => absurd (by omega) hij) hA
  refine ⟨adK 0, adV 0, ⟨⟨hK, hT⟩, ⟨⟨word_at (State.WarmedH.refl s) (Or.inr ⟨_, rfl⟩) wI, word_at (State.WarmedH.refl s) (Or.inr ⟨_, rfl⟩) wB, word_at (State.WarmedH.refl s) (Or.inr ⟨_, rfl⟩) wZ⟩, va_AO.of wS⟩⟩, ?_, ?_⟩
  · obtain ⟨v1, v2, v3, v4⟩ := hV.1 0 (by decide)
    refine ⟨v1, v2, v3, v4, ?_, ?_⟩
    · exact va_Zof (hts _ (lw_in 224 (by decide +kernel))) (hts _ (lw_in 182 (by decide +kernel))) (va_eqt (hfl _ (by decide +kernel))) hA
    · exact va_Zqof (hts _ (lw_in 240 (by decide +kernel))) (hts _ (lw_in 184 (by decide +kernel))) (hfl _ (by decide +kernel)) hA
  · exact vk_R.of (A := #[Value.ref b]) (hts _ (lw_in 214 (by decide +kernel))) (hev 0 (by decide))

def gS0 (op a1 a2 a3 a4 a5 : Int32) (μ μ2 : gM) : Prop := (op = 0 → ∃ (v v2 : Int32) (μ1 : gM), fX11_feed a1 a2 a3 a4 a5 μ = some (v, μ1) ∧ fX12_feed a1 a2 a3 a4 a5 μ1 = some (v2, μ2))
def gS1 (op a1 a2 a3 a4 a5 : Int32) (μ μ2 : gM) : Prop := (op = 1 → ∃ (v v2 : Int32) (μ1 : gM), fX11_end a1 μ = some (v, μ1) ∧ fX12_end a1 μ1 = some (v2, μ2))
def gS2 (op a1 a2 a3 a4 a5 : Int32) (μ μ2 : gM) : Prop := (op = 2 → ∃ (v v2 : Int32) (μ1 : gM), fX11_net μ = some (v, μ1) ∧ fX12_net μ1 = some (v2, μ2))
def gS3 (op a1 a2 a3 a4 a5 : Int32) (μ μ2 : gM) : Prop := (op = 3 → ∃ (v v2 : Int32) (μ1 : gM), fX11_plan μ = some (v, μ1) ∧ fX12_plan μ1 = some (v2, μ2))
def gS4 (op a1 a2 a3 a4 a5 : Int32) (μ μ2 : gM) : Prop := (op = 4 → ∃ v v2 : Int32, fX11_fault a1 μ = some v ∧ fX12_fault a1 μ = some (v2, μ2))
def gS5 (op a1 a2 a3 a4 a5 : Int32) (μ μ2 : gM) : Prop := (op = 5 → ∃ v v2 : Int32, fX11_has a1 μ = some v ∧ fX12_has a1 μ = some (v2, μ2))
def gS6 (op a1 a2 a3 a4 a5 : Int32) (μ μ2 : gM) : Prop := (op = 6 → ∃ v v2 : Int32, fX11_group a1 a2 μ = some v ∧ fX12_group a1 a2 μ = some (v2, μ2))
def gS7 (op a1 a2 a3 a4 a5 : Int32) (μ μ2 : gM) : Prop := (op = 7 → ∃ v v2 : Int32, fX11_member a1 a2 a3 μ = some v ∧ fX12_member a1 a2 a3 μ = some (v2, μ2))
def gS8 (op a1 a2 a3 a4 a5 : Int32) (μ μ2 : gM) : Prop := (op = 8 → ∃ v v2 : Int32, fX11_letter a1 a2 a3 μ = some v ∧ fX12_letter a1 a2 a3 μ = some (v2, μ2))
def gS9 (op a1 a2 a3 a4 a5 : Int32) (μ μ2 : gM) : Prop := (op = 9 → ∃ v v2 : Int32, fX11_track a1 a2 μ = some v ∧ fX12_track a1 a2 μ = some (v2, μ2))
def gS10 (op a1 a2 a3 a4 a5 : Int32) (μ μ2 : gM) : Prop := (op = 10 → ∃ v v2 : Int32, fX11_event a1 a2 μ = some v ∧ fX12_event a1 a2 μ = some (v2, μ2))
def gS11 (op a1 a2 a3 a4 a5 : Int32) (μ μ2 : gM) : Prop := (op = 11 → ∃ (v v2 : Int32) (μ1 : gM), fX11_ticks a1 μ = some (v, μ1) ∧ fX12_ticks a1 μ1 = some (v2, μ2))
def gS12 (op a1 a2 a3 a4 a5 : Int32) (μ μ2 : gM) : Prop := (op = 12 → ∃ (v v2 : Int32) (μ1 : gM), fX11_up a1 μ = some (v, μ1) ∧ fX12_up a1 μ1 = some (v2, μ2))
def gS13 (op a1 a2 a3 a4 a5 : Int32) (μ μ2 : gM) : Prop := (op = 13 → ∃ (v v2 : Int32) (μ1 : gM), fX11_down a1 (if a2 = 0 then 0 else 1) μ = some (v, μ1) ∧ fX12_down a1 (if a2 = 0 then 0 else 1) μ1 = some (v2, μ2))
def gS14 (op a1 a2 a3 a4 a5 : Int32) (μ μ2 : gM) : Prop := (op = 14 → ∃ (v v2 : Int32) (μ1 : gM), fX11_cut a1 (if a2 = 0 then 0 else 1) μ = some (v, μ1) ∧ fX12_cut a1 (if a2 = 0 then 0 else 1) μ1 = some (v2, μ2))
def gS15 (op a1 a2 a3 a4 a5 : Int32) (μ μ2 : gM) : Prop := (op = 15 → ∃ (v v2 : Int32) (μ1 : gM), fX11_split a1 μ = some (v, μ1) ∧ fX12_split a1 μ1 = some (v2, μ2))
def gS16 (op a1 a2 a3 a4 a5 : Int32) (μ μ2 : gM) : Prop := (op = 16 → ∃ (v v2 : Int32) (μ1 : gM), fX11_word a1 a2 a3 μ = some (v, μ1) ∧ fX12_word a1 a2 a3 μ1 = some (v2, μ2))
def gS17 (op a1 a2 a3 a4 a5 : Int32) (μ μ2 : gM) : Prop := (op = 17 → ∃ (v v2 : Int32) (μ1 : gM), fX11_chance a1 a2 μ = some (v, μ1) ∧ fX12_chance a1 a2 μ1 = some (v2, μ2))
def gS18 (op a1 a2 a3 a4 a5 : Int32) (μ μ2 : gM) : Prop := (op = 18 → ∃ v v2 : Int32, fX11_holder a1 a2 μ = some v ∧ fX12_holder a1 a2 μ = some (v2, μ2))
def gS19 (op a1 a2 a3 a4 a5 : Int32) (μ μ2 : gM) : Prop := (op = 19 → ∃ v v2 : Int32, fX11_doubles μ = some v ∧ fX12_doubles μ = some (v2, μ2))
def gS20 (op a1 a2 a3 a4 a5 : Int32) (μ μ2 : gM) : Prop := (op = 20 → ∃ v v2 : Int32, fX11_orphans μ = some v ∧ fX12_orphans μ = some (v2, μ2))
def gS21 (op a1 a2 a3 a4 a5 : Int32) (μ μ2 : gM) : Prop := (op = 21 → ∃ v v2 : Int32, fX11_holds a1 μ = some v ∧ fX12_holds a1 μ = some (v2, μ2))
def gS22 (op a1 a2 a3 a4 a5 : Int32) (μ μ2 : gM) : Prop := (op = 22 → ∃ (v v2 : Int32) (μ1 : gM), fX11_slot a1 a2 a3 μ = some (v, μ1) ∧ fX12_slot a1 a2 a3 μ1 = some (v2, μ2))
def gS23 (op a1 a2 a3 a4 a5 : Int32) (μ μ2 : gM) : Prop := (op = 23 → ∃ (v v2 : Int32) (μ1 : gM), fX11_slots a1 a2 μ = some (v, μ1) ∧ fX12_slots a1 a2 μ1 = some (v2, μ2))
def gS24 (op a1 a2 a3 a4 a5 : Int32) (μ μ2 : gM) : Prop := (op = 24 → ∃ (v v2 : Int32) (μ1 : gM), fX11_host a1 a2 a3 μ = some (v, μ1) ∧ fX12_host a1 a2 a3 μ1 = some (v2, μ2))
def gS25 (op a1 a2 a3 a4 a5 : Int32) (μ μ2 : gM) : Prop := (op = 25 → ∃ (v v2 : Int32) (μ1 : gM), fX11_load a1 a2 a3 μ = some (v, μ1) ∧ fX12_load a1 a2 a3 μ1 = some (v2, μ2))
def gS26 (op a1 a2 a3 a4 a5 : Int32) (μ μ2 : gM) : Prop := (op = 26 → ∃ (v v2 : Int32) (μ1 : gM), fX11_ahead a1 a2 μ = some (v, μ1) ∧ fX12_ahead a1 a2 μ1 = some (v2, μ2))
def gS27 (op a1 a2 a3 a4 a5 : Int32) (μ μ2 : gM) : Prop := (op = 27 → ∃ (v v2 : Int32) (μ1 : gM), fX11_fails a1 a2 a3 μ = some (v, μ1) ∧ fX12_fails a1 a2 a3 μ1 = some (v2, μ2))
def gS28 (op a1 a2 a3 a4 a5 : Int32) (μ μ2 : gM) : Prop := (op = 28 → ∃ (v v2 : Int32) (μ1 : gM), fX11_worst a1 a2 μ = some (v, μ1) ∧ fX12_worst a1 a2 μ1 = some (v2, μ2))
def gS29 (op a1 a2 a3 a4 a5 : Int32) (μ μ2 : gM) : Prop := (op = 29 → ∃ (v : Int32) (μ1 : gM), fX11_settles μ = some (v, μ1) ∧ fX12_settles μ1 = some (v, μ2))
def gS30 (op a1 a2 a3 a4 a5 : Int32) (μ μ2 : gM) : Prop := (op = 30 → ∃ (v v2 : Int32) (μ1 : gM), fX11_least a1 a2 μ = some (v, μ1) ∧ fX12_least a1 a2 μ1 = some (v2, μ2))
def gS31 (op a1 a2 a3 a4 a5 : Int32) (μ μ2 : gM) : Prop := (op = 31 → ∃ (v v2 : Int32) (μ1 : gM), fX11_flaps a1 a2 μ = some (v, μ1) ∧ fX12_flaps a1 a2 μ1 = some (v2, μ2))
def gS32 (op a1 a2 a3 a4 a5 : Int32) (μ μ2 : gM) : Prop := (op = 32 → ∃ (v v2 : Int32) (μ1 : gM), fX11_needs a1 a2 μ = some (v, μ1) ∧ fX12_needs a1 a2 μ1 = some (v2, μ2))
def gS33 (op a1 a2 a3 a4 a5 : Int32) (μ μ2 : gM) : Prop := (op = 33 → ∃ (v v2 : Int32) (μ1 : gM), fX11_letters a1 μ = some (v, μ1) ∧ fX12_letters a1 μ1 = some (v2, μ2))
def gS34 (op a1 a2 a3 a4 a5 : Int32) (μ μ2 : gM) : Prop := (op = 34 → ∃ (v v2 : Int32) (μ1 : gM), fX11_stands a1 a2 a3 μ = some (v, μ1) ∧ fX12_stands a1 a2 a3 μ1 = some (v2, μ2))
def gS35 (op a1 a2 a3 a4 a5 : Int32) (μ μ2 : gM) : Prop := (op = 35 → ∃ (v v2 : Int32) (μ1 : gM), fX11_returns a1 a2 μ = some (v, μ1) ∧ fX12_returns a1 a2 μ1 = some (v2, μ2))
def gS36 (op a1 a2 a3 a4 a5 : Int32) (μ μ2 : gM) : Prop := (op = 36 → ∃ (v v2 : Int32) (μ1 : gM), fX11_under a1 a2 a3 μ = some (v, μ1) ∧ fX12_under a1 a2 a3 μ1 = some (v2, μ2))
def gS37 (op a1 a2 a3 a4 a5 : Int32) (μ μ2 : gM) : Prop := (op = 37 → ∃ v v2 : Int32, fX11_rank a1 a2 μ = some v ∧ fX12_rank a1 a2 μ = some (v2, μ2))
def gS38 (op a1 a2 a3 a4 a5 : Int32) (μ μ2 : gM) : Prop := (op = 38 → ∃ v v2 : Int32, fX11_log a1 a2 μ = some v ∧ fX12_log a1 a2 μ = some (v2, μ2))
def gS39 (op a1 a2 a3 a4 a5 : Int32) (μ μ2 : gM) : Prop := (op = 39 → ∃ (v v2 : Int32) (μ1 : gM), fX11_undo μ = some (v, μ1) ∧ fX12_undo μ1 = some (v2, μ2))
def gS40 (op a1 a2 a3 a4 a5 : Int32) (μ μ2 : gM) : Prop := (op = 40 → ∃ (v v2 : Int32) (μ1 : gM), fX11_keep a1 μ = some (v, μ1) ∧ fX12_keep a1 μ1 = some (v2, μ2))
def gS41 (op a1 a2 a3 a4 a5 : Int32) (μ μ2 : gM) : Prop := (op = 41 → ∃ (v v2 : Int32) (μ1 : gM), fX11_back a1 μ = some (v, μ1) ∧ fX12_back a1 μ1 = some (v2, μ2))
/-- one call on both objects: what the law asks of it -/
def gS (op a1 a2 a3 a4 a5 : Int32) (μ μ2 : gM) : Prop := gS0 op a1 a2 a3 a4 a5 μ μ2 ∧ gS1 op a1 a2 a3 a4 a5 μ μ2 ∧ gS2 op a1 a2 a3 a4 a5 μ μ2 ∧ gS3 op a1 a2 a3 a4 a5 μ μ2 ∧ gS4 op a1 a2 a3 a4 a5 μ μ2 ∧ gS5 op a1 a2 a3 a4 a5 μ μ2 ∧ gS6 op a1 a2 a3 a4 a5 μ μ2 ∧ gS7 op a1 a2 a3 a4 a5 μ μ2 ∧ gS8 op a1 a2 a3 a4 a5 μ μ2 ∧ gS9 op a1 a2 a3 a4 a5 μ μ2 ∧ gS10 op a1 a2 a3 a4 a5 μ μ2 ∧ gS11 op a1 a2 a3 a4 a5 μ μ2 ∧ gS12 op a1 a2 a3 a4 a5 μ μ2 ∧ gS13 op a1 a2 a3 a4 a5 μ μ2 ∧ gS14 op a1 a2 a3 a4 a5 μ μ2 ∧ gS15 op a1 a2 a3 a4 a5 μ μ2 ∧ gS16 op a1 a2 a3 a4 a5 μ μ2 ∧ gS17 op a1 a2 a3 a4 a5 μ μ2 ∧ gS18 op a1 a2 a3 a4 a5 μ μ2 ∧ gS19 op a1 a2 a3 a4 a5 μ μ2 ∧ gS20 op a1 a2 a3 a4 a5 μ μ2 ∧ gS21 op a1 a2 a3 a4 a5 μ μ2 ∧ gS22 op a1 a2 a3 a4 a5 μ μ2 ∧ gS23 op a1 a2 a3 a4 a5 μ μ2 ∧ gS24 op a1 a2 a3 a4 a5 μ μ2 ∧ gS25 op a1 a2 a3 a4 a5 μ μ2 ∧ gS26 op a1 a2 a3 a4 a5 μ μ2 ∧ gS27 op a1 a2 a3 a4 a5 μ μ2 ∧ gS28 op a1 a2 a3 a4 a5 μ μ2 ∧ gS29 op a1 a2 a3 a4 a5 μ μ2 ∧ gS30 op a1 a2 a3 a4 a5 μ μ2 ∧ gS31 op a1 a2 a3 a4 a5 μ μ2 ∧ gS32 op a1 a2 a3 a4 a5 μ μ2 ∧ gS33 op a1 a2 a3 a4 a5 μ μ2 ∧ gS34 op a1 a2 a3 a4 a5 μ μ2 ∧ gS35 op a1 a2 a3 a4 a5 μ μ2 ∧ gS36 op a1 a2 a3 a4 a5 μ μ2 ∧ gS37 op a1 a2 a3 a4 a5 μ μ2 ∧ gS38 op a1 a2 a3 a4 a5 μ μ2 ∧ gS39 op a1 a2 a3 a4 a5 μ μ2 ∧ gS40 op a1 a2 a3 a4 a5 μ μ2 ∧ gS41 op a1 a2 a3 a4 a5 μ μ2 ∧ ((∀ j : Nat, j ≤ 41 → ¬ op = Int32.ofNat j) → μ2 = μ)
set_option maxRecDepth 100000 in
set_option maxHeartbeats 4000000 in
theorem gl_turn {l : Launch} {g : gG} {b Ls i : Nat} {xs : Nat → Int32} {K : gKt} (h : gLW l g b Ls xs K) (hi : i + 6 ≤ Ls) (hLs : Ls < 2 ^ 31) {μ μ2 : gM} (hs : gS (xs i &&& 63) (xs (i + 1)) (xs (i + 2)) (xs (i + 3)) (xs (i + 4)) (xs (i + 5)) μ μ2) (hk : K 1534 [some (.ref b), some (.ref (g.1 + 0)), some (.ref (g.1 + 267)), some (.int (nI i))] [] μ2) : K 33 [some (.ref b), some (.ref (g.1 + 0)), some (.ref (g.1 + 267)), some (.int (nI i))] [.int (xs i &&& 63)] μ := by
  unfold gS at hs
  obtain ⟨hs0, hs1, hs2, hs3, hs4, hs5, hs6, hs7, hs8, hs9, hs10, hs11, hs12, hs13, hs14, hs15, hs16, hs17, hs18, hs19, hs20, hs21, hs22, hs23, hs24, hs25, hs26, hs27, hs28, hs29, hs30, hs31, hs32, hs33, hs34, hs35, hs36, hs37, hs38, hs39, hs40, hs41, hsd⟩ := hs
  generalize xs i &&& 63 = op at *
  rcases Decidable.em (op = 0) with q0 | q0
  · obtain ⟨v, v2, μ1, e1, e2⟩ := hs0 q0
    refine zl_tabIn (pc := 33) (tgt := 216) h dL_law_33 (by rw [q0]; decide) (by rw [q0]; decide) (off := 183) (by rw [q0]; rfl) rfl ?_
    exact gl_case0 h hi hLs rfl rfl rfl rfl rfl e1 e2 hk
  rcases Decidable.em (op = 1) with q1 | q1
  · obtain ⟨v, v2, μ1, e1, e2⟩ := hs1 q1
    refine zl_tabIn (pc := 33) (tgt := 279) h dL_law_33 (by rw [q1]; decide) (by rw [q1]; decide) (off := 246) (by rw [q1]; rfl) rfl ?_
    exact gl_case1 h hi hLs rfl rfl rfl rfl rfl e1 e2 hk
  rcases Decidable.em (op = 2) with q2 | q2
  · obtain ⟨v, v2, μ1, e1, e2⟩ := hs2 q2
    refine zl_tabIn (pc := 33) (tgt := 302) h dL_law_33 (by rw [q2]; decide) (by rw [q2]; decide) (off := 269) (by rw [q2]; rfl) rfl ?_
    exact gl_case2 h hi hLs rfl rfl rfl rfl rfl e1 e2 hk
  rcases Decidable.em (op = 3) with q3 | q3
  · obtain ⟨v, v2, μ1, e1, e2⟩ := hs3 q3
    refine zl_tabIn (pc := 33) (tgt := 315) h dL_law_33 (by rw [q3]; decide) (by rw [q3]; decide) (off := 282) (by rw [q3]; rfl) rfl ?_
    exact gl_case3 h hi hLs rfl rfl rfl rfl rfl e1 e2 hk
  rcases Decidable.em (op = 4) with q4 | q4
  · obtain ⟨v, v2, e1, e2⟩ := hs4 q4
    refine zl_tabIn (pc := 33) (tgt := 328) h dL_law_33 (by rw [q4]; decide) (by rw [q4]; decide) (off := 295) (by rw [q4]; rfl) rfl ?_
    exact gl_case4 h hi hLs rfl rfl rfl rfl rfl e1 e2 hk
  rcases Decidable.em (op = 5) with q5 | q5
  · obtain ⟨v, v2, e1, e2⟩ := hs5 q5
    refine zl_tabIn (pc := 33) (tgt := 351) h dL_law_33 (by rw [q5]; decide) (by rw [q5]; decide) (off := 318) (by rw [q5]; rfl) rfl ?_
    exact gl_case5 h hi hLs rfl rfl rfl rfl rfl e1 e2 hk
  rcases Decidable.em (op = 6) with q6 | q6
  · obtain ⟨v, v2, e1, e2⟩ := hs6 q6
    refine zl_tabIn (pc := 33) (tgt := 374) h dL_law_33 (by rw [q6]; decide) (by rw [q6]; decide) (off := 341) (by rw [q6]; rfl) rfl ?_
    exact gl_case6 h hi hLs rfl rfl rfl rfl rfl e1 e2 hk
  rcases Decidable.em (op = 7) with q7 | q7
  · obtain ⟨v, v2, e1, e2⟩ := hs7 q7
    refine zl_tabIn (pc := 33) (tgt := 407) h dL_law_33 (by rw [q7]; decide) (by rw [q7]; decide) (off := 374) (by rw [q7]; rfl) rfl ?_
    exact gl_case7 h hi hLs rfl rfl rfl rfl rfl e1 e2 hk
  rcases Decidable.em (op = 8) with q8 | q8
  · obtain ⟨v, v2, e1, e2⟩ := hs8 q8
    refine zl_tabIn (pc := 33) (tgt := 450) h dL_law_33 (by rw [q8]; decide) (by rw [q8]; decide) (off := 417) (by rw [q8]; rfl) rfl ?_
    exact gl_case8 h hi hLs rfl rfl rfl rfl rfl e1 e2 hk
  rcases Decidable.em (op = 9) with q9 | q9
  · obtain ⟨v, v2, e1, e2⟩ := hs9 q9
    refine zl_tabIn (pc := 33) (tgt := 493) h dL_law_33 (by rw [q9]; decide) (by rw [q9]; decide) (off := 460) (by rw [q9]; rfl) rfl ?_
    exact gl_case9 h hi hLs rfl rfl rfl rfl rfl e1 e2 hk
  rcases Decidable.em (op = 10) with q10 | q10
  · obtain ⟨v, v2, e1, e2⟩ := hs10 q10
    refine zl_tabIn (pc := 33) (tgt := 526) h dL_law_33 (by rw [q10]; decide) (by rw [q10]; decide) (off := 493) (by rw [q10]; rfl) rfl ?_
    exact gl_case10 h hi hLs rfl rfl rfl rfl rfl e1 e2 hk
  rcases Decidable.em (op = 11) with q11 | q11
  · obtain ⟨v, v2, μ1, e1, e2⟩ := hs11 q11
    refine zl_tabIn (pc := 33) (tgt := 559) h dL_law_33 (by rw [q11]; decide) (by rw [q11]; decide) (off := 526) (by rw [q11]; rfl) rfl ?_
    exact gl_case11 h hi hLs rfl rfl rfl rfl rfl e1 e2 hk
  rcases Decidable.em (op = 12) with q12 | q12
  · obtain ⟨v, v2, μ1, e1, e2⟩ := hs12 q12
    refine zl_tabIn (pc := 33) (tgt := 582) h dL_law_33 (by rw [q12]; decide) (by rw [q12]; decide) (off := 549) (by rw [q12]; rfl) rfl ?_
    exact gl_case12 h hi hLs rfl rfl rfl rfl rfl e1 e2 hk
  rcases Decidable.em (op = 13) with q13 | q13
  · obtain ⟨v, v2, μ1, e1, e2⟩ := hs13 q13
    refine zl_tabIn (pc := 33) (tgt := 605) h dL_law_33 (by rw [q13]; decide) (by rw [q13]; decide) (off := 572) (by rw [q13]; rfl) rfl ?_
    exact gl_case13 h hi hLs rfl rfl rfl rfl rfl e1 e2 hk
  rcases Decidable.em (op = 14) with q14 | q14
  · obtain ⟨v, v2, μ1, e1, e2⟩ := hs14 q14
    refine zl_tabIn (pc := 33) (tgt := 654) h dL_law_33 (by rw [q14]; decide) (by rw [q14]; decide) (off := 621) (by rw [q14]; rfl) rfl ?_
    exact gl_case14 h hi hLs rfl rfl rfl rfl rfl e1 e2 hk
  rcases Decidable.em (op = 15) with q15 | q15
  · obtain ⟨v, v2, μ1, e1, e2⟩ := hs15 q15
    refine zl_tabIn (pc := 33) (tgt := 703) h dL_law_33 (by rw [q15]; decide) (by rw [q15]; decide) (off := 670) (by rw [q15]; rfl) rfl ?_
    exact gl_case15 h hi hLs rfl rfl rfl rfl rfl e1 e2 hk
  rcases Decidable.em (op = 16) with q16 | q16
  · obtain ⟨v, v2, μ1, e1, e2⟩ := hs16 q16
    refine zl_tabIn (pc := 33) (tgt := 726) h dL_law_33 (by rw [q16]; decide) (by rw [q16]; decide) (off := 693) (by rw [q16]; rfl) rfl ?_
    exact gl_case16 h hi hLs rfl rfl rfl rfl rfl e1 e2 hk
  rcases Decidable.em (op = 17) with q17 | q17
  · obtain ⟨v, v2, μ1, e1, e2⟩ := hs17 q17
    refine zl_tabIn (pc := 33) (tgt := 769) h dL_law_33 (by rw [q17]; decide) (by rw [q17]; decide) (off := 736) (by rw [q17]; rfl) rfl ?_
    exact gl_case17 h hi hLs rfl rfl rfl rfl rfl e1 e2 hk
  rcases Decidable.em (op = 18) with q18 | q18
  · obtain ⟨v, v2, e1, e2⟩ := hs18 q18
    refine zl_tabIn (pc := 33) (tgt := 802) h dL_law_33 (by rw [q18]; decide) (by rw [q18]; decide) (off := 769) (by rw [q18]; rfl) rfl ?_
    exact gl_case18 h hi hLs rfl rfl rfl rfl rfl e1 e2 hk
  rcases Decidable.em (op = 19) with q19 | q19
  · obtain ⟨v, v2, e1, e2⟩ := hs19 q19
    refine zl_tabIn (pc := 33) (tgt := 835) h dL_law_33 (by rw [q19]; decide) (by rw [q19]; decide) (off := 802) (by rw [q19]; rfl) rfl ?_
    exact gl_case19 h hi hLs rfl rfl rfl rfl rfl e1 e2 hk
  rcases Decidable.em (op = 20) with q20 | q20
  · obtain ⟨v, v2, e1, e2⟩ := hs20 q20
    refine zl_tabIn (pc := 33) (tgt := 848) h dL_law_33 (by rw [q20]; decide) (by rw [q20]; decide) (off := 815) (by rw [q20]; rfl) rfl ?_
    exact gl_case20 h hi hLs rfl rfl rfl rfl rfl e1 e2 hk
  rcases Decidable.em (op = 21) with q21 | q21
  · obtain ⟨v, v2, e1, e2⟩ := hs21 q21
    refine zl_tabIn (pc := 33) (tgt := 861) h dL_law_33 (by rw [q21]; decide) (by rw [q21]; decide) (off := 828) (by rw [q21]; rfl) rfl ?_
    exact gl_case21 h hi hLs rfl rfl rfl rfl rfl e1 e2 hk
  rcases Decidable.em (op = 22) with q22 | q22
  · obtain ⟨v, v2, μ1, e1, e2⟩ := hs22 q22
    refine zl_tabIn (pc := 33) (tgt := 884) h dL_law_33 (by rw [q22]; decide) (by rw [q22]; decide) (off := 851) (by rw [q22]; rfl) rfl ?_
    exact gl_case22 h hi hLs rfl rfl rfl rfl rfl e1 e2 hk
  rcases Decidable.em (op = 23) with q23 | q23
  · obtain ⟨v, v2, μ1, e1, e2⟩ := hs23 q23
    refine zl_tabIn (pc := 33) (tgt := 927) h dL_law_33 (by rw [q23]; decide) (by rw [q23]; decide) (off := 894) (by rw [q23]; rfl) rfl ?_
    exact gl_case23 h hi hLs rfl rfl rfl rfl rfl e1 e2 hk
  rcases Decidable.em (op = 24) with q24 | q24
  · obtain ⟨v, v2, μ1, e1, e2⟩ := hs24 q24
    refine zl_tabIn (pc := 33) (tgt := 960) h dL_law_33 (by rw [q24]; decide) (by rw [q24]; decide) (off := 927) (by rw [q24]; rfl) rfl ?_
    exact gl_case24 h hi hLs rfl rfl rfl rfl rfl e1 e2 hk
  rcases Decidable.em (op = 25) with q25 | q25
  · obtain ⟨v, v2, μ1, e1, e2⟩ := hs25 q25
    refine zl_tabIn (pc := 33) (tgt := 1003) h dL_law_33 (by rw [q25]; decide) (by rw [q25]; decide) (off := 970) (by rw [q25]; rfl) rfl ?_
    exact gl_case25 h hi hLs rfl rfl rfl rfl rfl e1 e2 hk
  rcases Decidable.em (op = 26) with q26 | q26
  · obtain ⟨v, v2, μ1, e1, e2⟩ := hs26 q26
    refine zl_tabIn (pc := 33) (tgt := 1046) h dL_law_33 (by rw [q26]; decide) (by rw [q26]; decide) (off := 1013) (by rw [q26]; rfl) rfl ?_
    exact gl_case26 h hi hLs rfl rfl rfl rfl rfl e1 e2 hk
  rcases Decidable.em (op = 27) with q27 | q27
  · obtain ⟨v, v2, μ1, e1, e2⟩ := hs27 q27
    refine zl_tabIn (pc := 33) (tgt := 1079) h dL_law_33 (by rw [q27]; decide) (by rw [q27]; decide) (off := 1046) (by rw [q27]; rfl) rfl ?_
    exact gl_case27 h hi hLs rfl rfl rfl rfl rfl e1 e2 hk
  rcases Decidable.em (op = 28) with q28 | q28
  · obtain ⟨v, v2, μ1, e1, e2⟩ := hs28 q28
    refine zl_tabIn (pc := 33) (tgt := 1122) h dL_law_33 (by rw [q28]; decide) (by rw [q28]; decide) (off := 1089) (by rw [q28]; rfl) rfl ?_
    exact gl_case28 h hi hLs rfl rfl rfl rfl rfl e1 e2 hk
  rcases Decidable.em (op = 29) with q29 | q29
  · obtain ⟨v, μ1, e1, e2⟩ := hs29 q29
    refine zl_tabIn (pc := 33) (tgt := 1155) h dL_law_33 (by rw [q29]; decide) (by rw [q29]; decide) (off := 1122) (by rw [q29]; rfl) rfl ?_
    exact gl_case29 (v2 := 0) h hi hLs rfl rfl rfl rfl rfl e1 e2 hk
  rcases Decidable.em (op = 30) with q30 | q30
  · obtain ⟨v, v2, μ1, e1, e2⟩ := hs30 q30
    refine zl_tabIn (pc := 33) (tgt := 1168) h dL_law_33 (by rw [q30]; decide) (by rw [q30]; decide) (off := 1135) (by rw [q30]; rfl) rfl ?_
    exact gl_case30 h hi hLs rfl rfl rfl rfl rfl e1 e2 hk
  rcases Decidable.em (op = 31) with q31 | q31
  · obtain ⟨v, v2, μ1, e1, e2⟩ := hs31 q31
    refine zl_tabIn (pc := 33) (tgt := 1201) h dL_law_33 (by rw [q31]; decide) (by rw [q31]; decide) (off := 1168) (by rw [q31]; rfl) rfl ?_
    exact gl_case31 h hi hLs rfl rfl rfl rfl rfl e1 e2 hk
  rcases Decidable.em (op = 32) with q32 | q32
  · obtain ⟨v, v2, μ1, e1, e2⟩ := hs32 q32
    refine zl_tabIn (pc := 33) (tgt := 1234) h dL_law_33 (by rw [q32]; decide) (by rw [q32]; decide) (off := 1201) (by rw [q32]; rfl) rfl ?_
    exact gl_case32 h hi hLs rfl rfl rfl rfl rfl e1 e2 hk
  rcases Decidable.em (op = 33) with q33 | q33
  · obtain ⟨v, v2, μ1, e1, e2⟩ := hs33 q33
    refine zl_tabIn (pc := 33) (tgt := 1267) h dL_law_33 (by rw [q33]; decide) (by rw [q33]; decide) (off := 1234) (by rw [q33]; rfl) rfl ?_
    exact gl_case33 h hi hLs rfl rfl rfl rfl rfl e1 e2 hk
  rcases Decidable.em (op = 34) with q34 | q34
  · obtain ⟨v, v2, μ1, e1, e2⟩ := hs34 q34
    refine zl_tabIn (pc := 33) (tgt := 1290) h dL_law_33 (by rw [q34]; decide) (by rw [q34]; decide) (off := 1257) (by rw [q34]; rfl) rfl ?_
    exact gl_case34 h hi hLs rfl rfl rfl rfl rfl e1 e2 hk
  rcases Decidable.em (op = 35) with q35 | q35
  · obtain ⟨v, v2, μ1, e1, e2⟩ := hs35 q35
    refine zl_tabIn (pc := 33) (tgt := 1333) h dL_law_33 (by rw [q35]; decide) (by rw [q35]; decide) (off := 1300) (by rw [q35]; rfl) rfl ?_
    exact gl_case35 h hi hLs rfl rfl rfl rfl rfl e1 e2 hk
  rcases Decidable.em (op = 36) with q36 | q36
  · obtain ⟨v, v2, μ1, e1, e2⟩ := hs36 q36
    refine zl_tabIn (pc := 33) (tgt := 1366) h dL_law_33 (by rw [q36]; decide) (by rw [q36]; decide) (off := 1333) (by rw [q36]; rfl) rfl ?_
    exact gl_case36 h hi hLs rfl rfl rfl rfl rfl e1 e2 hk
  rcases Decidable.em (op = 37) with q37 | q37
  · obtain ⟨v, v2, e1, e2⟩ := hs37 q37
    refine zl_tabIn (pc := 33) (tgt := 1409) h dL_law_33 (by rw [q37]; decide) (by rw [q37]; decide) (off := 1376) (by rw [q37]; rfl) rfl ?_
    exact gl_case37 h hi hLs rfl rfl rfl rfl rfl e1 e2 hk
  rcases Decidable.em (op = 38) with q38 | q38
  · obtain ⟨v, v2, e1, e2⟩ := hs38 q38
    refine zl_tabIn (pc := 33) (tgt := 1442) h dL_law_33 (by rw [q38]; decide) (by rw [q38]; decide) (off := 1409) (by rw [q38]; rfl) rfl ?_
    exact gl_case38 h hi hLs rfl rfl rfl rfl rfl e1 e2 hk
  rcases Decidable.em (op = 39) with q39 | q39
  · obtain ⟨v, v2, μ1, e1, e2⟩ := hs39 q39
    refine zl_tabIn (pc := 33) (tgt := 1475) h dL_law_33 (by rw [q39]; decide) (by rw [q39]; decide) (off := 1442) (by rw [q39]; rfl) rfl ?_
    exact gl_case39 h hi hLs rfl rfl rfl rfl rfl e1 e2 hk
  rcases Decidable.em (op = 40) with q40 | q40
  · obtain ⟨v, v2, μ1, e1, e2⟩ := hs40 q40
    refine zl_tabIn (pc := 33) (tgt := 1488) h dL_law_33 (by rw [q40]; decide) (by rw [q40]; decide) (off := 1455) (by rw [q40]; rfl) rfl ?_
    exact gl_case40 h hi hLs rfl rfl rfl rfl rfl e1 e2 hk
  rcases Decidable.em (op = 41) with q41 | q41
  · obtain ⟨v, v2, μ1, e1, e2⟩ := hs41 q41
    refine zl_tabIn (pc := 33) (tgt := 1511) h dL_law_33 (by rw [q41]; decide) (by rw [q41]; decide) (off := 1478) (by rw [q41]; rfl) rfl ?_
    exact gl_case41 h hi hLs rfl rfl rfl rfl rfl e1 e2 hk
  have hout : ∀ j : Nat, j ≤ 41 → ¬ op = Int32.ofNat j := by
    intro j hj
    have e : j = 0 ∨ j = 1 ∨ j = 2 ∨ j = 3 ∨ j = 4 ∨ j = 5 ∨ j = 6 ∨ j = 7 ∨ j = 8 ∨ j = 9 ∨ j = 10 ∨ j = 11 ∨ j = 12 ∨ j = 13 ∨ j = 14 ∨ j = 15 ∨ j = 16 ∨ j = 17 ∨ j = 18 ∨ j = 19 ∨ j = 20 ∨ j = 21 ∨ j = 22 ∨ j = 23 ∨ j = 24 ∨ j = 25 ∨ j = 26 ∨ j = 27 ∨ j = 28 ∨ j = 29 ∨ j = 30 ∨ j = 31 ∨ j = 32 ∨ j = 33 ∨ j = 34 ∨ j = 35 ∨ j = 36 ∨ j = 37 ∨ j = 38 ∨ j = 39 ∨ j = 40 ∨ j = 41 := by omega
    rcases e with rfl|rfl|rfl|rfl|rfl|rfl|rfl|rfl|rfl|rfl|rfl|rfl|rfl|rfl|rfl|rfl|rfl|rfl|rfl|rfl|rfl|rfl|rfl|rfl|rfl|rfl|rfl|rfl|rfl|rfl|rfl|rfl|rfl|rfl|rfl|rfl|rfl|rfl|rfl|rfl|rfl|rfl <;> assumption
  refine zl_tabOut (pc := 33) (tgt := 1534) h dL_law_33 (zTab (n := 41) (by decide) hout) rfl ?_
  rw [← hsd hout]
  exact hk

set_option maxRecDepth 100000 in
set_option maxHeartbeats 4000000 in
theorem gl_loop {l : Launch} {g : gG} {b Ls : Nat} {xs : Nat → Int32} {K : gKt} (h : gLW l g b Ls xs K) (hLs : Ls < 2 ^ 30) (I : Nat → gM → Prop) (hI : ∀ (n : Nat) (μ : gM) (a0 a1 a2 a3 a4 a5 : Int32), 6 * n + 6 ≤ Ls → I n μ → ∃ μ2, gS (a0 &&& 63) a1 a2 a3 a4 a5 μ μ2 ∧ I (n + 1) μ2) : ∀ (d n : Nat) (μ : gM), Ls < 6 * n + 6 * d → I n μ → 6 * n ≤ Ls → K 18 [some (.ref b), some (.ref (g.1 + 0)), some (.ref (g.1 + 267)), some (.int (nI (6 * n)))] [] μ := by
  intro d
  induction d with
  | zero => intro n μ h1 h2 h3; omega
  | succ d ih =>
    intro n μ h1 h2 h3
    refine zl_iload_n (pc := 18) h dL_law_18 rfl rfl ?_
    refine zl_aload_n (pc := 19) h dL_law_19 rfl rfl ?_
    refine zl_slen (pc := 20) (v := nI Ls) h rfl dL_law_20 ?_
    refine zl_bipush (pc := 21) (v := 6) h dL_law_21 (by decide) ?_
    refine zl_isub (pc := 23) h dL_law_23 ?_
    refine zl_icmp_gt (pc := 24) (tgt := 1540) h dL_law_24 rfl (fun hgt => ?_) (fun hng => ?_)
    · refine zl_iconst (pc := 1540) (v := 1) h dL_law_1540 (by decide) ?_
      exact zl_end h dL_law_1541
    · have hi : 6 * n + 6 ≤ Ls := by
        rcases Nat.lt_or_ge Ls (6 * n + 6) with q | q
        · exfalso
          apply hng
          rw [show (6 : Int32) = nI 6 from rfl]
          have e1 := pk_sub_toInt (a := Ls) (b := 6) (by omega) (by decide)
          have e2 := nI_toInt (n := 6 * n) (by omega)
          exact Int32.lt_iff_toInt_lt.mpr (by rw [e1, e2]; omega)
        · exact q
      refine zl_aload_n (pc := 27) h dL_law_27 rfl rfl ?_
      refine zl_iload_n (pc := 28) h dL_law_28 rfl rfl ?_
      refine zl_sld (pc := 29) (q := 6 * n) h (vp_in_nI (by omega) (by omega)) (nI_clamp (by omega)) dL_law_29 ?_
      refine zl_bipush (pc := 30) (v := 63) h dL_law_30 (by decide) ?_
      refine zl_iand (pc := 32) h dL_law_32 ?_
      obtain ⟨μ2, s1, s2⟩ := hI n μ (xs (6 * n)) (xs (6 * n + 1)) (xs (6 * n + 2)) (xs (6 * n + 3)) (xs (6 * n + 4)) (xs (6 * n + 5)) hi h2
      refine gl_turn h hi (by omega) s1 ?_
      refine zl_iinc (pc := 1534) (v := nI (6 * (n + 1))) h dL_law_1534 rfl (by rw [show Int32.ofInt 6 = nI 6 from rfl, nI_add]; rfl) (by decide) rfl ?_
      refine zl_goto (pc := 1537) (tgt := 18) h dL_law_1537 rfl ?_
      exact ih (n + 1) μ2 (by omega) s2 (by omega)

set_option maxRecDepth 100000 in
set_option maxHeartbeats 4000000 in
theorem gl_start {p : Program} {e : Env} {s : State} {m : MethodId} {below : List Frame} {meth : Method} {c : Code} (l : Launch) {b L : Nat} {xs : Nat → Int32} (hL : L ≤ 3072) (C0 : lw_At p s m meth c b L xs) (I : Nat → gM → Prop) (h0 : I 0 gM0) (hI : ∀ (n : Nat) (μ : gM) (a0 a1 a2 a3 a4 a5 : Int32), 6 * n + 6 ≤ 3072 → I n μ → ∃ μ2, gS (a0 &&& 63) a1 a2 a3 a4 a5 μ μ2 ∧ I (n + 1) μ2) : W p l e room_1 s m #[Value.ref b] below meth c s.heap [] 0 0 (lw_Z below #[Value.ref b] s) (entryFrame m ([Value.ref b] : List Value).toArray 4) := by
  obtain ⟨D, X, q, v, hKC, hE, hZ⟩ := gl_ctx C0
  obtain ⟨hx, hb, hr, hml, hown, hts, hX, hbl, hlocks, hgv⟩ := id C0
  generalize hg : ((s.heap.size, D, X) : gG) = g at hKC
  have hg1 : g.1 = s.heap.size := by rw [← hg]
  rw [← hg1] at hE
  have hl := lv_entry ([.ref b]) (n := 4) (Nat.le_of_ble_eq_true rfl)
  rw [lg_entry_eq]
  generalize (lg_sl ([.ref b]) ++ List.replicate (4 - (lg_sl ([.ref b])).length) Slot.unset).toArray = ls at hl ⊢
  have hl : lv_has ls 4 [(0, .ref b)] := hl
  have hS : va_S (gA g.1) s.heap s.heap [] := va_S.rf
  have hP : va_P g.2.1 vwCl (gWc g 0 (fun _ => .inr (0, []))) s.heap := fun k q h => by simp [gWc] at h
  refine gW_new (c := 11) (fs := [.null, .null, .null, .null, .null, .null, .null, .null, .null]) hx hb hown hKC.1 (by omega) hP hS rfl zu_X11 tyX11_ok (gwt_1 21 (by decide +kernel) rfl) (gwt_1 22 (by decide +kernel) rfl) (gwt_1 1 (by decide +kernel) rfl) (by decide) (by decide) (by decide) dL_law_0 (fun H hH hP hS => ?_)
  refine lv_dup hx hb dL_law_3 rfl ?_
  refine gW_ctor (n := 1) (nL := 4) (b := 0) (As := []) (Pc := gPkS g [.ref (g.1 + 0)] 1 (va_up (fun _ => .inr (0, [])) 0 (.inr (11, [.null, .null, .null, .null, .null, .null, .null, .null, .null]))) q v) hx hb hml hl.1 hown hKC.1 hg1.symm rfl hS (gPkS_blind _ _ _ _ _ _) (fun U hU hW => ⟨⟨rfl, by rw [hU]; exact hH, by rw [hU]; exact hP, ⟨va_K.moved hW.alike hKC.1.1, hKC.1.2.warm hW⟩, hKC.2.warm hW⟩, by rw [hU]; exact (hE.kept hS.2.1).moved hW.alike, hZ.warm hW⟩) (gwt_1 23 (by decide +kernel) rfl) (gwt_1 24 (by decide +kernel) rfl) zc_X11_init rfl ⟨by decide, by decide⟩ (kX11_init (zup_eq rfl)) rfl (Nat.le_of_ble_eq_true rfl) (by decide) (by decide) rfl (by decide) dL_law_4 rfl (fun H locs hH hP hS => ?_)
  refine lv_astore_n (lv' := [(1, .ref (g.1 + 0)), (0, .ref b)]) hx hb dL_law_7 rfl hl (by decide) rfl (fun ls hl => ?_)
  refine gW_new (c := 12) (fs := [.int 0, .null, .int 0, .int 0, .int 0, .int 0, .int 0, .int 0, .int 0, .int 0, .int 0, .int 0, .int 0, .null, .null, .int 0, .int 0, .null, .null, .null, .int 0, .null, .int 0, .null, .null, .null, .int 0]) hx hb hown hKC.1 hH hP hS rfl zu_X12 tyX12_ok (gwt_5 217 (by decide +kernel) rfl) (gwt_5 218 (by decide +kernel) rfl) (gwt_1 17 (by decide +kernel) rfl) (by decide) (by decide) (by decide) dL_law_8 (fun H hH hP hS => ?_)
  refine lv_dup hx hb dL_law_11 rfl ?_
  refine gW_ctor (n := 268) (nL := 4) (b := 267) (As := []) (Pc := gPk g [.ref (g.1 + 267)] 268 _) hx hb hml hl.1 hown hKC.1 hg1.symm rfl hS (gPk_blind _ _ _ _) (fun U hU hW => ⟨rfl, by rw [hU]; exact hH, by rw [hU]; exact hP, ⟨va_K.moved hW.alike hKC.1.1, hKC.1.2.warm hW⟩, hKC.2.warm hW⟩) (gwt_5 219 (by decide +kernel) rfl) (gwt_5 220 (by decide +kernel) rfl) zc_X12_init rfl ⟨by decide, by decide⟩ (kX12_init (zup_eq rfl)) rfl (Nat.le_of_ble_eq_true rfl) (by decide) (by decide) rfl (by decide) dL_law_12 rfl (fun H locs hH hP hS => ?_)
  refine lv_astore_n (lv' := [(2, .ref (g.1 + 267)), (1, .ref (g.1 + 0)), (0, .ref b)]) hx hb dL_law_15 rfl hl (by decide) rfl (fun ls hl => ?_)
  refine lv_iconst (v := 0) hx hb dL_law_16 (by decide) ?_
  refine lv_istore_n (lv' := [(3, .int 0), (2, .ref (g.1 + 267)), (1, .ref (g.1 + 0)), (0, .ref b)]) hx hb dL_law_17 rfl hl (by decide) rfl (fun ls hl => ?_)
  have hW0 : gWd g gM0 H := by
    have e1 : gWc g 278 (gFill g (va_up (gFill g (va_up (fun _ => .inr (0, [])) 0 (.inr (11, [.null, .null, .null, .null, .null, .null, .null, .null, .null]))) 0 267) 267 (.inr (12, [.int 0, .null, .int 0, .int 0, .int 0, .int 0, .int 0, .int 0, .int 0, .int 0, .int 0, .int 0, .int 0, .null, .null, .int 0, .int 0, .null, .null, .null, .int 0, .null, .int 0, .null, .null, .null, .int 0]))) 267 278) = gW g gM0 := by
      unfold gWc gW
      apply List.map_congr_left
      intro k hk
      have hk := List.mem_range.mp hk
      congr 1
      show _ = gE0 g k
      unfold gFill va_up
      by_cases h1 : 267 ≤ k
      · rw [if_pos ⟨h1, hk⟩]
      · rw [if_neg (by omega), if_neg (by omega)]
        exact if_pos ⟨Nat.zero_le k, by omega⟩
    unfold gWd
    rw [← e1]
    exact hP
  have hgo := gl_loop (l := l) (g := g) (b := b) (Ls := L) (xs := xs) (K := fun pc L st μ => ∀ (H : Heap) (locs : List Loc) (ls : Array Slot), gWd g μ H → va_S (gA g.1) s.heap H locs → gL ls 4 L → W p l e room_1 s m #[Value.ref b] below meth c H locs 278 20559 (lw_Z below #[Value.ref b] s) (F0 m pc ls st)) ⟨p, e, s, m, below, meth, c, C0, hg1, hKC.1, fun _ _ _ _ => Iff.rfl⟩ (by omega) I (fun n μ a0 a1 a2 a3 a4 a5 h1 h2 => hI n μ a0 a1 a2 a3 a4 a5 (by omega) h2) (L + 1) 0 gM0 (by omega) h0 (by omega)
  refine hgo H locs ls hW0 hS ⟨hl.1, hl.2.1, fun i v hi => ?_⟩
  match i, hi with
  | 0, hi => cases hi; exact lv_at hl 3 rfl
  | 1, hi => cases hi; exact lv_at hl 2 rfl
  | 2, hi => cases hi; exact lv_at hl 1 rfl
  | 3, hi => cases hi; exact lv_at hl 0 rfl
  | i + 4, hi => simp at hi

