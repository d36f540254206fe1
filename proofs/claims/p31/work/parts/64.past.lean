theorem gkc_52 : gk 52 = (0, 9) := by decide +kernel
theorem gkc_66 : gk 66 = (0, 9) := by decide +kernel
theorem gkc_80 : gk 80 = (0, 9) := by decide +kernel
theorem gkc_94 : gk 94 = (0, 9) := by decide +kernel
theorem gkc_108 : gk 108 = (0, 9) := by decide +kernel
theorem gkc_122 : gk 122 = (0, 9) := by decide +kernel
theorem gkc_136 : gk 136 = (0, 9) := by decide +kernel
theorem gkc_150 : gk 150 = (0, 9) := by decide +kernel
theorem gkc_164 : gk 164 = (0, 9) := by decide +kernel
theorem gkc_178 : gk 178 = (0, 9) := by decide +kernel
theorem gkc_192 : gk 192 = (0, 9) := by decide +kernel
theorem gkc_206 : gk 206 = (0, 9) := by decide +kernel
theorem gkc_220 : gk 220 = (0, 9) := by decide +kernel
theorem gkc_234 : gk 234 = (0, 9) := by decide +kernel
theorem zv_595 : (Cond.methodLink RX4 3 objectInit) ∈ gwL := gwt_2 176 (by decide +kernel) rfl
theorem zv_596 : (Cond.classLink RX4 9 RX9) ∈ gwL := gwt_2 177 (by decide +kernel) rfl
theorem zv_599 : (Cond.fieldLink RX4 11 RX4 "acts" "[LGateGroup$State;") ∈ gwL := gwt_2 180 (by decide +kernel) rfl
theorem zv_600 : (Cond.fieldLink RX4 17 RX4 "images" "[LGateGroup$State;") ∈ gwL := gwt_2 181 (by decide +kernel) rfl
theorem zv_598 : (Cond.methodLinkNest RX4 20 yX9_init RX11) ∈ gwL := gwt_2 179 (by decide +kernel) rfl
theorem zk_retq {l : Launch} {g : gG} {cc : ByteArray} {own : String} {nL : Nat} {R : Room} {n0 mc ms n' : Nat} {e' : Nat → va_E} {K : gCt} (h : gC l g cc own nL R n0 mc ms n' e' K) {pc : Nat} {L : List (Option Value)} {n : Nat} {e : Nat → va_E} {sl : Nat} (hn : n' = n) (hc : n0 + mc = n) (hs : ms = sl) (he : ∀ H : Heap, va_P g.2.1 vwCl (gWc g n e) H → va_P g.2.1 vwCl (gWc g n e') H) (hd : decode cc pc = .ok (.return_, 1)) : K pc L [] n e sl := by
  obtain ⟨p, en, s, m, args, below, meth, co, hx, hb, hml, hown, hk, hr, hlk, hnm0, hsz, hK⟩ := h
  refine (hK _ _ _ _ _ _).mpr (fun H locs ls ce hce hP hS hL => ?_)
  subst hn
  subst hs
  obtain rfl : ce = mc := by omega
  exact W.vret hx hb hr (fun t ht _ => ⟨rfl, by rw [ht]; exact he H hP, hS.F ht⟩) hS.2.2 hd hlk
theorem gcell_q {cA : ClassId} {n : Nat} {f f' : Nat → Option Nat} (h : ∀ i, i < n → f i = f' i) : vp_cell cA (n, .inr (.inr (.inr (.inr f)))) = vp_cell cA (n, .inr (.inr (.inr (.inr f')))) := by
  show arrV cA n (fun j => va_rf (f j)) = arrV cA n (fun j => va_rf (f' j))
  unfold arrV
  congr 1
  apply Array.ext
  · simp
  · intro i h1 h2
    have h3 : i < n := by simpa using h1
    simp [h i h3]
def zJ (g : gG) (e0 e : Nat → va_E) (n : Nat) : Prop := ∀ k, k < n → k ≠ 49 → k ≠ 50 → k ≠ 51 → e k = gFill g e0 49 n k
theorem zJ_call {g : gG} {e0 e : Nat → va_E} {n n1 : Nat} {x : va_E} (ha : 52 ≤ n) (hn : n ≤ n1) (h : zJ g e0 e n) : zJ g e0 (gFill g (va_up e n x) n n1) n1 := by
  intro k h1 h2 h3 h4
  by_cases hk : n ≤ k
  · unfold gFill
    rw [if_pos (by omega), if_pos (by omega)]
  · have h5 := h k (by omega) h2 h3 h4
    unfold gFill at h5 ⊢
    unfold va_up
    rw [if_neg (by omega), if_neg (by omega), h5]
    by_cases h6 : 49 ≤ k
    · rw [if_pos (by omega), if_pos (by omega)]
    · rw [if_neg (by omega), if_neg (by omega)]
theorem zJ_put {g : gG} {e0 e : Nat → va_E} {n a : Nat} {x : va_E} (ha : a = 50 ∨ a = 51) (h : zJ g e0 e n) : zJ g e0 (va_up e a x) n := by
  intro k h1 h2 h3 h4
  rw [← h k h1 h2 h3 h4]
  unfold va_up
  rw [if_neg (by omega)]
theorem zJ_end {g : gG} {e0 e : Nat → va_E} {f1 f2 : Nat → Option Nat} (h : zJ g e0 e 248) (hv : e 49 = gE0 g 49) (h50 : e 50 = .inl (g.2.2 3, 12, .inr (.inr (.inr (.inr f1))))) (h51 : e 51 = .inl (g.2.2 3, 2, .inr (.inr (.inr (.inr f2))))) (q1 : ∀ i, i < 12 → f1 i = some (g.1 + gEl 50 i)) (q2 : ∀ i, i < 2 → f2 i = some (g.1 + gEl 51 i)) : ∀ H : Heap, va_P g.2.1 vwCl (gWc g 248 e) H → va_P g.2.1 vwCl (gWc g 248 (gFill g e0 49 248)) H := by
  intro H hP k q hq
  by_cases hk : k < 248
  · rw [gWc_at g _ hk] at hq
    cases hq
    have h1 := hP k _ (gWc_at g e hk)
    by_cases e1 : k = 49
    · subst e1
      rw [hv] at h1
      simpa [gFill] using h1
    · by_cases e2 : k = 50
      · subst e2
        rw [h50] at h1
        have e3 : gFill g e0 49 248 50 = .inl (g.2.2 3, 12, .inr (.inr (.inr (.inr (fun i => some (g.1 + gEl 50 i)))))) := by
          show gE0 g 50 = _
          unfold gE0
          rw [gEn_ref g _ gkc_50]
        rw [e3]
        show H[g.1 + 50]? = some (vp_cell _ _)
        have h2 : H[g.1 + 50]? = some (vp_cell (g.2.2 3) (12, .inr (.inr (.inr (.inr f1))))) := h1
        rw [h2, gcell_q q1]
      · by_cases e3 : k = 51
        · subst e3
          rw [h51] at h1
          have e4 : gFill g e0 49 248 51 = .inl (g.2.2 3, 2, .inr (.inr (.inr (.inr (fun i => some (g.1 + gEl 51 i)))))) := by
            show gE0 g 51 = _
            unfold gE0
            rw [gEn_ref g _ gkc_51]
          rw [e4]
          show H[g.1 + 51]? = some (vp_cell _ _)
          have h2 : H[g.1 + 51]? = some (vp_cell (g.2.2 3) (2, .inr (.inr (.inr (.inr f2))))) := h1
          rw [h2, gcell_q q2]
        · rw [h k hk e1 e2 e3] at h1
          exact h1
  · rw [gWc_no g _ hk] at hq
    cases hq
theorem gE0_st {g : gG} {a : Nat} (h : gk a = (0, 9)) : ∃ vs, gE0 g a = .inr (9, vs) := ⟨_, gEn_obj g _ h⟩
theorem zfil_in {g : gG} {e : Nat → va_E} {a b c : Nat} {x : va_E} (h : b ≤ a ∧ a < c) (he : gE0 g a = x) : gFill g e b c a = x := by
  unfold gFill
  rw [if_pos h, he]
theorem zup_put2 {e : Nat → va_E} {n a : Nat} {x y z : va_E} (h : n ≠ a) (_hv : va_up e n x a = z) : va_up (va_up e n x) a y n = x := by
  unfold va_up
  rw [if_neg h, if_pos rfl]
theorem zup_ne3 {e : Nat → va_E} {k n1 n2 n3 n4 : Nat} {y1 y2 y3 y4 : va_E} (h1 : k ≠ n1) (h2 : k ≠ n2) (h3 : k ≠ n3) (h4 : k ≠ n4) : va_up (va_up (va_up (va_up e n1 y1) n2 y2) n3 y3) n4 y4 k = e k := by
  unfold va_up
  rw [if_neg h4, if_neg h3, if_neg h2, if_neg h1]
set_option maxRecDepth 100000 in
set_option maxHeartbeats 40000000 in
theorem kX4_init {l : Launch} {g : gG} {e : Nat → va_E} (hv : e 49 = .inr (4, [.null, .null, .int 0, .int 0, .int 0])) : gMk l g yX4_init cX4_init 2 3 52 198 7504 [.ref (g.1 + 49)] 50 e 248 (gFill g e 49 248) := by
  refine gMk_of (gIni [.ref (g.1 + 49)] ++ List.replicate 1 none) (by decide) rfl (gIni_ok _ _) (Nat.le_of_ble_eq_true rfl) (fun K h => ?_)
  show K 0 [some (.ref (g.1 + 49)), none] [] 50 e 0
  have hJ : zJ g e e 52 := fun k h1 h2 h3 h4 => by unfold gFill; rw [if_neg (by omega)]
  refine zk_aload_n (pc := 0) h dX4_init_0 rfl rfl ?_
  refine zk_obj (pc := 1) h zv_595 zv_206 zv_207 (by decide) (Nat.le_of_ble_eq_true rfl) dX4_init_1 ?_
  refine zk_aload_n (pc := 4) h dX4_init_4 rfl rfl ?_
  refine zk_bipush (pc := 5) (v := 12) h dX4_init_5 (by decide) ?_
  refine zk_newq (pc := 7) (N := 12) h zv_596 (by decide) (by decide) (by decide) (by dsimp only [gRk]; omega) (by dsimp only [gRk]; omega) dX4_init_7 ?_
  have hv := zup_ne (n := 50) (y := .inl (g.2.2 3, 12, .inr (.inr (.inr (.inr (fun _ => none)))))) (by omega) hv
  refine zk_putF (pc := 10) (a := 49) (c := 4) (j := 0) (fs := [.null, .null, .int 0, .int 0, .int 0]) h (by omega) hv rfl (by decide) rfl rfl zu_X4 zv_599 tyX4_ok nmX4 rfl rfl rfl (Nat.le_of_ble_eq_true rfl) dX4_init_10 ?_
  have h50 : va_up (va_up e 50 (.inl (g.2.2 3, 12, .inr (.inr (.inr (.inr (fun _ => none))))))) 49 (.inr (4, [.ref (g.1 + 50), .null, .int 0, .int 0, .int 0])) 50 = .inl (g.2.2 3, 12, .inr (.inr (.inr (.inr (fun _ => none))))) := zup_ne (by omega) (zup_eq rfl)
  have hv := zup_put (y := .inr (4, [.ref (g.1 + 50), .null, .int 0, .int 0, .int 0])) hv
  refine zk_aload_n (pc := 13) h dX4_init_13 rfl rfl ?_
  refine zk_iconst (pc := 14) (v := 2) h dX4_init_14 (by decide) ?_
  refine zk_newq (pc := 15) (N := 2) h zv_596 (by decide) (by decide) (by decide) (by dsimp only [gRk]; omega) (by dsimp only [gRk]; omega) dX4_init_15 ?_
  have hv := zup_ne (n := 51) (y := .inl (g.2.2 3, 2, .inr (.inr (.inr (.inr (fun _ => none)))))) (by omega) hv
  have h50 := zup_ne (n := 51) (y := .inl (g.2.2 3, 2, .inr (.inr (.inr (.inr (fun _ => none)))))) (by omega) h50
  refine zk_putF (pc := 18) (a := 49) (c := 4) (j := 1) (fs := [.ref (g.1 + 50), .null, .int 0, .int 0, .int 0]) h (by omega) hv rfl (by decide) rfl rfl zu_X4 zv_600 tyX4_ok nmX4 rfl rfl rfl (Nat.le_of_ble_eq_true rfl) dX4_init_18 ?_
  have h51 := zup_put2 (e := _) (n := 51) (a := 49) (x := .inl (g.2.2 3, 2, .inr (.inr (.inr (.inr (fun _ => none)))))) (y := .inr (4, [.ref (g.1 + 50), .ref (g.1 + 51), .int 0, .int 0, .int 0])) (by omega) hv
  have h50 := zup_ne (n := 49) (y := .inr (4, [.ref (g.1 + 50), .ref (g.1 + 51), .int 0, .int 0, .int 0])) (by omega) h50
  have hv := zup_put (y := .inr (4, [.ref (g.1 + 50), .ref (g.1 + 51), .int 0, .int 0, .int 0])) hv
  have hJ : zJ g e _ 52 := fun k h1 h2 h3 h4 => (zup_ne3 (n1 := 50) (n2 := 49) (n3 := 51) (n4 := 49) (y1 := .inl (g.2.2 3, 12, .inr (.inr (.inr (.inr (fun _ => none)))))) (y2 := .inr (4, [.ref (g.1 + 50), .null, .int 0, .int 0, .int 0])) (y3 := .inl (g.2.2 3, 2, .inr (.inr (.inr (.inr (fun _ => none)))))) (y4 := .inr (4, [.ref (g.1 + 50), .ref (g.1 + 51), .int 0, .int 0, .int 0])) h3 h2 h4 h2).trans (hJ k h1 h2 h3 h4)
  refine zk_iconst (pc := 21) (v := 0) h dX4_init_21 (by decide) ?_
  refine zk_istore_n (pc := 22) h dX4_init_22 rfl (by decide) rfl ?_
  refine zk_iload_n (pc := 23) h dX4_init_23 rfl rfl ?_
  refine zk_bipush (pc := 24) (v := 12) h dX4_init_24 (by decide) ?_
  refine zk_icmp_ge (pc := 26) (tgt := 48) h dX4_init_26 rfl (fun q => absurd q (by decide)) (fun _ => ?_)
  refine zk_aload_n (pc := 29) h dX4_init_29 rfl rfl ?_
  refine zk_get (pc := 30) (a := 49) (c := 4) (j := 0) (v := .ref (g.1 + 50)) (fs := [.ref (g.1 + 50), .ref (g.1 + 51), .int 0, .int 0, .int 0]) h (by omega) hv rfl (by decide) rfl zu_X4 zv_599 rfl dX4_init_30 ?_
  refine zk_iload_n (pc := 33) h dX4_init_33 rfl rfl ?_
  refine zk_new (pc := 34) (c := 9) (fs := [.int 0, .int 0, .int 0, .int 0, .int 0, .int 0, .int 0, .int 0, .int 0, .null, .null, .null, .null, .null, .null, .null, .null, .null, .null, .null]) h rfl zu_X9 tyX9_ok zv_596 zv_435 zv_190 (by decide) (by dsimp only [gRk]; omega) (by dsimp only [gRk]; omega) dX4_init_34 ?_
  refine zk_dup (pc := 37) h dX4_init_37 rfl ?_
  refine zk_call (pc := 38) (mc1 := 13) (ms1 := 515) (n1 := 66) (host := "GateGroup") h zv_598 zv_437 zc_X9_init rfl ⟨by decide, by decide⟩ (kX9_init (a := 52) gkc_52 (zup_eq rfl)) rfl (Nat.le_of_ble_eq_true rfl) (by dsimp only [gRk]; omega) (by dsimp only [gRk]; omega) rfl dX4_init_38 rfl ?_
  have hJ := zJ_call (x := .inr (9, [.int 0, .int 0, .int 0, .int 0, .int 0, .int 0, .int 0, .int 0, .int 0, .null, .null, .null, .null, .null, .null, .null, .null, .null, .null, .null])) (n := 52) (n1 := 66) (by omega) (by omega) hJ
  have hv := zfil (g := g) (b := 52) (c := 66) (by omega) (zup_ne (n := 52) (y := .inr (9, [.int 0, .int 0, .int 0, .int 0, .int 0, .int 0, .int 0, .int 0, .int 0, .null, .null, .null, .null, .null, .null, .null, .null, .null, .null, .null])) (by omega) hv)
  have h50 := zfil (g := g) (b := 52) (c := 66) (by omega) (zup_ne (n := 52) (y := .inr (9, [.int 0, .int 0, .int 0, .int 0, .int 0, .int 0, .int 0, .int 0, .int 0, .null, .null, .null, .null, .null, .null, .null, .null, .null, .null, .null])) (by omega) h50)
  have h51 := zfil (g := g) (b := 52) (c := 66) (by omega) (zup_ne (n := 52) (y := .inr (9, [.int 0, .int 0, .int 0, .int 0, .int 0, .int 0, .int 0, .int 0, .int 0, .null, .null, .null, .null, .null, .null, .null, .null, .null, .null, .null])) (by omega) h51)
  obtain ⟨vs52, hs52⟩ := gE0_st (g := g) gkc_52
  refine zk_astq (pc := 41) (a := 50) (b := 52) (q := 0) h (by omega) h50 (by omega) (zfil_in (by omega) hs52) (by decide) (by decide) dX4_init_41 ?_
  have hJ := zJ_put (a := 50) (x := .inl (g.2.2 3, 12, .inr (.inr (.inr (.inr (va_up (fun _ => none) 0 (some (g.1 + 52)))))))) (by omega) hJ
  have hv := zup_ne (n := 50) (y := .inl (g.2.2 3, 12, .inr (.inr (.inr (.inr (va_up (fun _ => none) 0 (some (g.1 + 52)))))))) (by omega) hv
  have h51 := zup_ne (n := 50) (y := .inl (g.2.2 3, 12, .inr (.inr (.inr (.inr (va_up (fun _ => none) 0 (some (g.1 + 52)))))))) (by omega) h51
  have h50 := zup_put (y := .inl (g.2.2 3, 12, .inr (.inr (.inr (.inr (va_up (fun _ => none) 0 (some (g.1 + 52)))))))) h50
  refine zk_iinc (pc := 42) (v := 1) h dX4_init_42 rfl (by decide) (by decide) rfl ?_
  refine zk_goto (pc := 45) (tgt := 23) h dX4_init_45 rfl ?_
  refine zk_iload_n (pc := 23) h dX4_init_23 rfl rfl ?_
  refine zk_bipush (pc := 24) (v := 12) h dX4_init_24 (by decide) ?_
  refine zk_icmp_ge (pc := 26) (tgt := 48) h dX4_init_26 rfl (fun q => absurd q (by decide)) (fun _ => ?_)
  refine zk_aload_n (pc := 29) h dX4_init_29 rfl rfl ?_
  refine zk_get (pc := 30) (a := 49) (c := 4) (j := 0) (v := .ref (g.1 + 50)) (fs := [.ref (g.1 + 50), .ref (g.1 + 51), .int 0, .int 0, .int 0]) h (by omega) hv rfl (by decide) rfl zu_X4 zv_599 rfl dX4_init_30 ?_
  refine zk_iload_n (pc := 33) h dX4_init_33 rfl rfl ?_
  refine zk_new (pc := 34) (c := 9) (fs := [.int 0, .int 0, .int 0, .int 0, .int 0, .int 0, .int 0, .int 0, .int 0, .null, .null, .null, .null, .null, .null, .null, .null, .null, .null, .null]) h rfl zu_X9 tyX9_ok zv_596 zv_435 zv_190 (by decide) (by dsimp only [gRk]; omega) (by dsimp only [gRk]; omega) dX4_init_34 ?_
  refine zk_dup (pc := 37) h dX4_init_37 rfl ?_
  refine zk_call (pc := 38) (mc1 := 13) (ms1 := 515) (n1 := 80) (host := "GateGroup") h zv_598 zv_437 zc_X9_init rfl ⟨by decide, by decide⟩ (kX9_init (a := 66) gkc_66 (zup_eq rfl)) rfl (Nat.le_of_ble_eq_true rfl) (by dsimp only [gRk]; omega) (by dsimp only [gRk]; omega) rfl dX4_init_38 rfl ?_
  have hJ := zJ_call (x := .inr (9, [.int 0, .int 0, .int 0, .int 0, .int 0, .int 0, .int 0, .int 0, .int 0, .null, .null, .null, .null, .null, .null, .null, .null, .null, .null, .null])) (n := 66) (n1 := 80) (by omega) (by omega) hJ
  have hv := zfil (g := g) (b := 66) (c := 80) (by omega) (zup_ne (n := 66) (y := .inr (9, [.int 0, .int 0, .int 0, .int 0, .int 0, .int 0, .int 0, .int 0, .int 0, .null, .null, .null, .null, .null, .null, .null, .null, .null, .null, .null])) (by omega) hv)
  have h50 := zfil (g := g) (b := 66) (c := 80) (by omega) (zup_ne (n := 66) (y := .inr (9, [.int 0, .int 0, .int 0, .int 0, .int 0, .int 0, .int 0, .int 0, .int 0, .null, .null, .null, .null, .null, .null, .null, .null, .null, .null, .null])) (by omega) h50)
  have h51 := zfil (g := g) (b := 66) (c := 80) (by omega) (zup_ne (n := 66) (y := .inr (9, [.int 0, .int 0, .int 0, .int 0, .int 0, .int 0, .int 0, .int 0, .int 0, .null, .null, .null, .null, .null, .null, .null, .null, .null, .null, .null])) (by omega) h51)
  obtain ⟨vs66, hs66⟩ := gE0_st (g := g) gkc_66
  refine zk_astq (pc := 41) (a := 50) (b := 66) (q := 1) h (by omega) h50 (by omega) (zfil_in (by omega) hs66) (by decide) (by decide) dX4_init_41 ?_
  have hJ := zJ_put (a := 50) (x := .inl (g.2.2 3, 12, .inr (.inr (.inr (.inr (va_up (va_up (fun _ => none) 0 (some (g.1 + 52))) 1 (some (g.1 + 66)))))))) (by omega) hJ
  have hv := zup_ne (n := 50) (y := .inl (g.2.2 3, 12, .inr (.inr (.inr (.inr (va_up (va_up (fun _ => none) 0 (some (g.1 + 52))) 1 (some (g.1 + 66)))))))) (by omega) hv
  have h51 := zup_ne (n := 50) (y := .inl (g.2.2 3, 12, .inr (.inr (.inr (.inr (va_up (va_up (fun _ => none) 0 (some (g.1 + 52))) 1 (some (g.1 + 66)))))))) (by omega) h51
  have h50 := zup_put (y := .inl (g.2.2 3, 12, .inr (.inr (.inr (.inr (va_up (va_up (fun _ => none) 0 (some (g.1 + 52))) 1 (some (g.1 + 66)))))))) h50
  refine zk_iinc (pc := 42) (v := 2) h dX4_init_42 rfl (by decide) (by decide) rfl ?_
  refine zk_goto (pc := 45) (tgt := 23) h dX4_init_45 rfl ?_
  refine zk_iload_n (pc := 23) h dX4_init_23 rfl rfl ?_
  refine zk_bipush (pc := 24) (v := 12) h dX4_init_24 (by decide) ?_
  refine zk_icmp_ge (pc := 26) (tgt := 48) h dX4_init_26 rfl (fun q => absurd q (by decide)) (fun _ => ?_)
  refine zk_aload_n (pc := 29) h dX4_init_29 rfl rfl ?_
  refine zk_get (pc := 30) (a := 49) (c := 4) (j := 0) (v := .ref (g.1 + 50)) (fs := [.ref (g.1 + 50), .ref (g.1 + 51), .int 0, .int 0, .int 0]) h (by omega) hv rfl (by decide) rfl zu_X4 zv_599 rfl dX4_init_30 ?_
  refine zk_iload_n (pc := 33) h dX4_init_33 rfl rfl ?_
  refine zk_new (pc := 34) (c := 9) (fs := [.int 0, .int 0, .int 0, .int 0, .int 0, .int 0, .int 0, .int 0, .int 0, .null, .null, .null, .null, .null, .null, .null, .null, .null, .null, .null]) h rfl zu_X9 tyX9_ok zv_596 zv_435 zv_190 (by decide) (by dsimp only [gRk]; omega) (by dsimp only [gRk]; omega) dX4_init_34 ?_
  refine zk_dup (pc := 37) h dX4_init_37 rfl ?_
  refine zk_call (pc := 38) (mc1 := 13) (ms1 := 515) (n1 := 94) (host := "GateGroup") h zv_598 zv_437 zc_X9_init rfl ⟨by decide, by decide⟩ (kX9_init (a := 80) gkc_80 (zup_eq rfl)) rfl (Nat.le_of_ble_eq_true rfl) (by dsimp only [gRk]; omega) (by dsimp only [gRk]; omega) rfl dX4_init_38 rfl ?_
  have hJ := zJ_call (x := .inr (9, [.int 0, .int 0, .int 0, .int 0, .int 0, .int 0, .int 0, .int 0, .int 0, .null, .null, .null, .null, .null, .null, .null, .null, .null, .null, .null])) (n := 80) (n1 := 94) (by omega) (by omega) hJ
  have hv := zfil (g := g) (b := 80) (c := 94) (by omega) (zup_ne (n := 80) (y := .inr (9, [.int 0, .int 0, .int 0, .int 0, .int 0, .int 0, .int 0, .int 0, .int 0, .null, .null, .null, .null, .null, .null, .null, .null, .null, .null, .null])) (by omega) hv)
  have h50 := zfil (g := g) (b := 80) (c := 94) (by omega) (zup_ne (n := 80) (y := .inr (9, [.int 0, .int 0, .int 0, .int 0, .int 0, .int 0, .int 0, .int 0, .int 0, .null, .null, .null, .null, .null, .null, .null, .null, .null, .null, .null])) (by omega) h50)
  have h51 := zfil (g := g) (b := 80) (c := 94) (by omega) (zup_ne (n := 80) (y := .inr (9, [.int 0, .int 0, .int 0, .int 0, .int 0, .int 0, .int 0, .int 0, .int 0, .null, .null, .null, .null, .null, .null, .null, .null, .null, .null, .null])) (by omega) h51)
  obtain ⟨vs80, hs80⟩ := gE0_st (g := g) gkc_80
  refine zk_astq (pc := 41) (a := 50) (b := 80) (q := 2) h (by omega) h50 (by omega) (zfil_in (by omega) hs80) (by decide) (by decide) dX4_init_41 ?_
  have hJ := zJ_put (a := 50) (x := .inl (g.2.2 3, 12, .inr (.inr (.inr (.inr (va_up (va_up (va_up (fun _ => none) 0 (some (g.1 + 52))) 1 (some (g.1 + 66))) 2 (some (g.1 + 80)))))))) (by omega) hJ
  have hv := zup_ne (n := 50) (y := .inl (g.2.2 3, 12, .inr (.inr (.inr (.inr (va_up (va_up (va_up (fun _ => none) 0 (some (g.1 + 52))) 1 (some (g.1 + 66))) 2 (some (g.1 + 80)))))))) (by omega) hv
  have h51 := zup_ne (n := 50) (y := .inl (g.2.2 3, 12, .inr (.inr (.inr (.inr (va_up (va_up (va_up (fun _ => none) 0 (some (g.1 + 52))) 1 (some (g.1 + 66))) 2 (some (g.1 + 80)))))))) (by omega) h51
  have h50 := zup_put (y := .inl (g.2.2 3, 12, .inr (.inr (.inr (.inr (va_up (va_up (va_up (fun _ => none) 0 (some (g.1 + 52))) 1 (some (g.1 + 66))) 2 (some (g.1 + 80)))))))) h50
  refine zk_iinc (pc := 42) (v := 3) h dX4_init_42 rfl (by decide) (by decide) rfl ?_
  refine zk_goto (pc := 45) (tgt := 23) h dX4_init_45 rfl ?_
  refine zk_iload_n (pc := 23) h dX4_init_23 rfl rfl ?_
  refine zk_bipush (pc := 24) (v := 12) h dX4_init_24 (by decide) ?_
  refine zk_icmp_ge (pc := 26) (tgt := 48) h dX4_init_26 rfl (fun q => absurd q (by decide)) (fun _ => ?_)
  refine zk_aload_n (pc := 29) h dX4_init_29 rfl rfl ?_
  refine zk_get (pc := 30) (a := 49) (c := 4) (j := 0) (v := .ref (g.1 + 50)) (fs := [.ref (g.1 + 50), .ref (g.1 + 51), .int 0, .int 0, .int 0]) h (by omega) hv rfl (by decide) rfl zu_X4 zv_599 rfl dX4_init_30 ?_
  refine zk_iload_n (pc := 33) h dX4_init_33 rfl rfl ?_
  refine zk_new (pc := 34) (c := 9) (fs := [.int 0, .int 0, .int 0, .int 0, .int 0, .int 0, .int 0, .int 0, .int 0, .null, .null, .null, .null, .null, .null, .null, .null, .null, .null, .null]) h rfl zu_X9 tyX9_ok zv_596 zv_435 zv_190 (by decide) (by dsimp only [gRk]; omega) (by dsimp only [gRk]; omega) dX4_init_34 ?_
  refine zk_dup (pc := 37) h dX4_init_37 rfl ?_
  refine zk_call (pc := 38) (mc1 := 13) (ms1 := 515) (n1 := 108) (host := "GateGroup") h zv_598 zv_437 zc_X9_init rfl ⟨by decide, by decide⟩ (kX9_init (a := 94) gkc_94 (zup_eq rfl)) rfl (Nat.le_of_ble_eq_true rfl) (by dsimp only [gRk]; omega) (by dsimp only [gRk]; omega) rfl dX4_init_38 rfl ?_
  have hJ := zJ_call (x := .inr (9, [.int 0, .int 0, .int 0, .int 0, .int 0, .int 0, .int 0, .int 0, .int 0, .null, .null, .null, .null, .null, .null, .null, .null, .null, .null, .null])) (n := 94) (n1 := 108) (by omega) (by omega) hJ
  have hv := zfil (g := g) (b := 94) (c := 108) (by omega) (zup_ne (n := 94) (y := .inr (9, [.int 0, .int 0, .int 0, .int 0, .int 0, .int 0, .int 0, .int 0, .int 0, .null, .null, .null, .null, .null, .null, .null, .null, .null, .null, .null])) (by omega) hv)
  have h50 := zfil (g := g) (b := 94) (c := 108) (by omega) (zup_ne (n := 94) (y := .inr (9, [.int 0, .int 0, .int 0, .int 0, .int 0, .int 0, .int 0, .int 0, .int 0, .null, .null, .null, .null, .null, .null, .null, .null, .null, .null, .null])) (by omega) h50)
  have h51 := zfil (g := g) (b := 94) (c := 108) (by omega) (zup_ne (n := 94) (y := .inr (9, [.int 0, .int 0, .int 0, .int 0, .int 0, .int 0, .int 0, .int 0, .int 0, .null, .null, .null, .null, .null, .null, .null, .null, .null, .null, .null])) (by omega) h51)
  obtain ⟨vs94, hs94⟩ := gE0_st (g := g) gkc_94
  refine zk_astq (pc := 41) (a := 50) (b := 94) (q := 3) h (by omega) h50 (by omega) (zfil_in (by omega) hs94) (by decide) (by decide) dX4_init_41 ?_
  have hJ := zJ_put (a := 50) (x := .inl (g.2.2 3, 12, .inr (.inr (.inr (.inr (va_up (va_up (va_up (va_up (fun _ => none) 0 (some (g.1 + 52))) 1 (some (g.1 + 66))) 2 (some (g.1 + 80))) 3 (some (g.1 + 94)))))))) (by omega) hJ
  have hv := zup_ne (n := 50) (y := .inl (g.2.2 3, 12, .inr (.inr (.inr (.inr (va_up (va_up (va_up (va_up (fun _ => none) 0 (some (g.1 + 52))) 1 (some (g.1 + 66))) 2 (some (g.1 + 80))) 3 (some (g.1 + 94)))))))) (by omega) hv
  have h51 := zup_ne (n := 50) (y := .inl (g.2.2 3, 12, .inr (.inr (.inr (.inr (va_up (va_up (va_up (va_up (fun _ => none) 0 (some (g.1 + 52))) 1 (some (g.1 + 66))) 2 (some (g.1 + 80))) 3 (some (g.1 + 94)))))))) (by omega) h51
  have h50 := zup_put (y := .inl (g.2.2 3, 12, .inr (.inr (.inr (.inr (va_up (va_up (va_up (va_up (fun _ => none) 0 (some (g.1 + 52))) 1 (some (g.1 + 66))) 2 (some (g.1 + 80))) 3 (some (g.1 + 94)))))))) h50
  refine zk_iinc (pc := 42) (v := 4) h dX4_init_42 rfl (by decide) (by decide) rfl ?_
  refine zk_goto (pc := 45) (tgt := 23) h dX4_init_45 rfl ?_
  refine zk_iload_n (pc := 23) h dX4_init_23 rfl rfl ?_
  refine zk_bipush (pc := 24) (v := 12) h dX4_init_24 (by decide) ?_
  refine zk_icmp_ge (pc := 26) (tgt := 48) h dX4_init_26 rfl (fun q => absurd q (by decide)) (fun _ => ?_)
  refine zk_aload_n (pc := 29) h dX4_init_29 rfl rfl ?_
  refine zk_get (pc := 30) (a := 49) (c := 4) (j := 0) (v := .ref (g.1 + 50)) (fs := [.ref (g.1 + 50), .ref (g.1 + 51), .int 0, .int 0, .int 0]) h (by omega) hv rfl (by decide) rfl zu_X4 zv_599 rfl dX4_init_30 ?_
  refine zk_iload_n (pc := 33) h dX4_init_33 rfl rfl ?_
  refine zk_new (pc := 34) (c := 9) (fs := [.int 0, .int 0, .int 0, .int 0, .int 0, .int 0, .int 0, .int 0, .int 0, .null, .null, .null, .null, .null, .null, .null, .null, .null, .null, .null]) h rfl zu_X9 tyX9_ok zv_596 zv_435 zv_190 (by decide) (by dsimp only [gRk]; omega) (by dsimp only [gRk]; omega) dX4_init_34 ?_
  refine zk_dup (pc := 37) h dX4_init_37 rfl ?_
  refine zk_call (pc := 38) (mc1 := 13) (ms1 := 515) (n1 := 122) (host := "GateGroup") h zv_598 zv_437 zc_X9_init rfl ⟨by decide, by decide⟩ (kX9_init (a := 108) gkc_108 (zup_eq rfl)) rfl (Nat.le_of_ble_eq_true rfl) (by dsimp only [gRk]; omega) (by dsimp only [gRk]; omega) rfl dX4_init_38 rfl ?_
  have hJ := zJ_call (x := .inr (9, [.int 0, .int 0, .int 0, .int 0, .int 0, .int 0, .int 0, .int 0, .int 0, .null, .null, .null, .null, .null, .null, .null, .null, .null, .null, .null])) (n := 108) (n1 := 122) (by omega) (by omega) hJ
  have hv := zfil (g := g) (b := 108) (c := 122) (by omega) (zup_ne (n := 108) (y := .inr (9, [.int 0, .int 0, .int 0, .int 0, .int 0, .int 0, .int 0, .int 0, .int 0, .null, .null, .null, .null, .null, .null, .null, .null, .null, .null, .null])) (by omega) hv)
  have h50 := zfil (g := g) (b := 108) (c := 122) (by omega) (zup_ne (n := 108) (y := .inr (9, [.int 0, .int 0, .int 0, .int 0, .int 0, .int 0, .int 0, .int 0, .int 0, .null, .null, .null, .null, .null, .null, .null, .null, .null, .null, .null])) (by omega) h50)
  have h51 := zfil (g := g) (b := 108) (c := 122) (by omega) (zup_ne (n := 108) (y := .inr (9, [.int 0, .int 0, .int 0, .int 0, .int 0, .int 0, .int 0, .int 0, .int 0, .null, .null, .null, .null, .null, .null, .null, .null, .null, .null, .null])) (by omega) h51)
  obtain ⟨vs108, hs108⟩ := gE0_st (g := g) gkc_108
  refine zk_astq (pc := 41) (a := 50) (b := 108) (q := 4) h (by omega) h50 (by omega) (zfil_in (by omega) hs108) (by decide) (by decide) dX4_init_41 ?_
  have hJ := zJ_put (a := 50) (x := .inl (g.2.2 3, 12, .inr (.inr (.inr (.inr (va_up (va_up (va_up (va_up (va_up (fun _ => none) 0 (some (g.1 + 52))) 1 (some (g.1 + 66))) 2 (some (g.1 + 80))) 3 (some (g.1 + 94))) 4 (some (g.1 + 108)))))))) (by omega) hJ
  have hv := zup_ne (n := 50) (y := .inl (g.2.2 3, 12, .inr (.inr (.inr (.inr (va_up (va_up (va_up (va_up (va_up (fun _ => none) 0 (some (g.1 + 52))) 1 (some (g.1 + 66))) 2 (some (g.1 + 80))) 3 (some (g.1 + 94))) 4 (some (g.1 + 108)))))))) (by omega) hv
  have h51 := zup_ne (n := 50) (y := .inl (g.2.2 3, 12, .inr (.inr (.inr (.inr (va_up (va_up (va_up (va_up (va_up (fun _ => none) 0 (some (g.1 + 52))) 1 (some (g.1 + 66))) 2 (some (g.1 + 80))) 3 (some (g.1 + 94))) 4 (some (g.1 + 108)))))))) (by omega) h51
  have h50 := zup_put (y := .inl (g.2.2 3, 12, .inr (.inr (.inr (.inr (va_up (va_up (va_up (va_up (va_up (fun _ => none) 0 (some (g.1 + 52))) 1 (some (g.1 + 66))) 2 (some (g.1 + 80))) 3 (some (g.1 + 94))) 4 (some (g.1 + 108)))))))) h50
  refine zk_iinc (pc := 42) (v := 5) h dX4_init_42 rfl (by decide) (by decide) rfl ?_
  refine zk_goto (pc := 45) (tgt := 23) h dX4_init_45 rfl ?_
  refine zk_iload_n (pc := 23) h dX4_init_23 rfl rfl ?_
  refine zk_bipush (pc := 24) (v := 12) h dX4_init_24 (by decide) ?_
  refine zk_icmp_ge (pc := 26) (tgt := 48) h dX4_init_26 rfl (fun q => absurd q (by decide)) (fun _ => ?_)
  refine zk_aload_n (pc := 29) h dX4_init_29 rfl rfl ?_
  refine zk_get (pc := 30) (a := 49) (c := 4) (j := 0) (v := .ref (g.1 + 50)) (fs := [.ref (g.1 + 50), .ref (g.1 + 51), .int 0, .int 0, .int 0]) h (by omega) hv rfl (by decide) rfl zu_X4 zv_599 rfl dX4_init_30 ?_
  refine zk_iload_n (pc := 33) h dX4_init_33 rfl rfl ?_
  refine zk_new (pc := 34) (c := 9) (fs := [.int 0, .int 0, .int 0, .int 0, .int 0, .int 0, .int 0, .int 0, .int 0, .null, .null, .null, .null, .null, .null, .null, .null, .null, .null, .null]) h rfl zu_X9 tyX9_ok zv_596 zv_435 zv_190 (by decide) (by dsimp only [gRk]; omega) (by dsimp only [gRk]; omega) dX4_init_34 ?_
  refine zk_dup (pc := 37) h dX4_init_37 rfl ?_
  refine zk_call (pc := 38) (mc1 := 13) (ms1 := 515) (n1 := 136) (host := "GateGroup") h zv_598 zv_437 zc_X9_init rfl ⟨by decide, by decide⟩ (kX9_init (a := 122) gkc_122 (zup_eq rfl)) rfl (Nat.le_of_ble_eq_true rfl) (by dsimp only [gRk]; omega) (by dsimp only [gRk]; omega) rfl dX4_init_38 rfl ?_
  have hJ := zJ_call (x := .inr (9, [.int 0, .int 0, .int 0, .int 0, .int 0, .int 0, .int 0, .int 0, .int 0, .null, .null, .null, .null, .null, .null, .null, .null, .null, .null, .null])) (n := 122) (n1 := 136) (by omega) (by omega) hJ
  have hv := zfil (g := g) (b := 122) (c := 136) (by omega) (zup_ne (n := 122) (y := .inr (9, [.int 0, .int 0, .int 0, .int 0, .int 0, .int 0, .int 0, .int 0, .int 0, .null, .null, .null, .null, .null, .null, .null, .null, .null, .null, .null])) (by omega) hv)
  have h50 := zfil (g := g) (b := 122) (c := 136) (by omega) (zup_ne (n := 122) (y := .inr (9, [.int 0, .int 0, .int 0, .int 0, .int 0, .int 0, .int 0, .int 0, .int 0, .null, .null, .null, .null, .null, .null, .null, .null, .null, .null, .null])) (by omega) h50)
  have h51 := zfil (g := g) (b := 122) (c := 136) (by omega) (zup_ne (n := 122) (y := .inr (9, [.int 0, .int 0, .int 0, .int 0, .int 0, .int 0, .int 0, .int 0, .int 0, .null, .null, .null, .null, .null, .null, .null, .null, .null, .null, .null])) (by omega) h51)
  obtain ⟨vs122, hs122⟩ := gE0_st (g := g) gkc_122
  refine zk_astq (pc := 41) (a := 50) (b := 122) (q := 5) h (by omega) h50 (by omega) (zfil_in (by omega) hs122) (by decide) (by decide) dX4_init_41 ?_
  have hJ := zJ_put (a := 50) (x := .inl (g.2.2 3, 12, .inr (.inr (.inr (.inr (va_up (va_up (va_up (va_up (va_up (va_up (fun _ => none) 0 (some (g.1 + 52))) 1 (some (g.1 + 66))) 2 (some (g.1 + 80))) 3 (some (g.1 + 94))) 4 (some (g.1 + 108))) 5 (some (g.1 + 122)))))))) (by omega) hJ
  have hv := zup_ne (n := 50) (y := .inl (g.2.2 3, 12, .inr (.inr (.inr (.inr (va_up (va_up (va_up (va_up (va_up (va_up (fun _ => none) 0 (some (g.1 + 52))) 1 (some (g.1 + 66))) 2 (some (g.1 + 80))) 3 (some (g.1 + 94))) 4 (some (g.1 + 108))) 5 (some (g.1 + 122)))))))) (by omega) hv
  have h51 := zup_ne (n := 50) (y := .inl (g.2.2 3, 12, .inr (.inr (.inr (.inr (va_up (va_up (va_up (va_up (va_up (va_up (fun _ => none) 0 (some (g.1 + 52))) 1 (some (g.1 + 66))) 2 (some (g.1 + 80))) 3 (some (g.1 + 94))) 4 (some (g.1 + 108))) 5 (some (g.1 + 122)))))))) (by omega) h51
  have h50 := zup_put (y := .inl (g.2.2 3, 12, .inr (.inr (.inr (.inr (va_up (va_up (va_up (va_up (va_up (va_up (fun _ => none) 0 (some (g.1 + 52))) 1 (some (g.1 + 66))) 2 (some (g.1 + 80))) 3 (some (g.1 + 94))) 4 (some (g.1 + 108))) 5 (some (g.1 + 122)))))))) h50
  refine zk_iinc (pc := 42) (v := 6) h dX4_init_42 rfl (by decide) (by decide) rfl ?_
  refine zk_goto (pc := 45) (tgt := 23) h dX4_init_45 rfl ?_
  refine zk_iload_n (pc := 23) h dX4_init_23 rfl rfl ?_
  refine zk_bipush (pc := 24) (v := 12) h dX4_init_24 (by decide) ?_
  refine zk_icmp_ge (pc := 26) (tgt := 48) h dX4_init_26 rfl (fun q => absurd q (by decide)) (fun _ => ?_)
  refine zk_aload_n (pc := 29) h dX4_init_29 rfl rfl ?_
  refine zk_get (pc := 30) (a := 49) (c := 4) (j := 0) (v := .ref (g.1 + 50)) (fs := [.ref (g.1 + 50), .ref (g.1 + 51), .int 0, .int 0, .int 0]) h (by omega) hv rfl (by decide) rfl zu_X4 zv_599 rfl dX4_init_30 ?_
  refine zk_iload_n (pc := 33) h dX4_init_33 rfl rfl ?_
  refine zk_new (pc := 34) (c := 9) (fs := [.int 0, .int 0, .int 0, .int 0, .int 0, .int 0, .int 0, .int 0, .int 0, .null, .null, .null, .null, .null, .null, .null, .null, .null, .null, .null]) h rfl zu_X9 tyX9_ok zv_596 zv_435 zv_190 (by decide) (by dsimp only [gRk]; omega) (by dsimp only [gRk]; omega) dX4_init_34 ?_
  refine zk_dup (pc := 37) h dX4_init_37 rfl ?_
  refine zk_call (pc := 38) (mc1 := 13) (ms1 := 515) (n1 := 150) (host := "GateGroup") h zv_598 zv_437 zc_X9_init rfl ⟨by decide, by decide⟩ (kX9_init (a := 136) gkc_136 (zup_eq rfl)) rfl (Nat.le_of_ble_eq_true rfl) (by dsimp only [gRk]; omega) (by dsimp only [gRk]; omega) rfl dX4_init_38 rfl ?_
  have hJ := zJ_call (x := .inr (9, [.int 0, .int 0, .int 0, .int 0, .int 0, .int 0, .int 0, .int 0, .int 0, .null, .null, .null, .null, .null, .null, .null, .null, .null, .null, .null])) (n := 136) (n1 := 150) (by omega) (by omega) hJ
  have hv := zfil (g := g) (b := 136) (c := 150) (by omega) (zup_ne (n := 136) (y := .inr (9, [.int 0, .int 0, .int 0, .int 0, .int 0, .int 0, .int 0, .int 0, .int 0, .null, .null, .null, .null, .null, .null, .null, .null, .null, .null, .null])) (by omega) hv)
  have h50 := zfil (g := g) (b := 136) (c := 150) (by omega) (zup_ne (n := 136) (y := .inr (9, [.int 0, .int 0, .int 0, .int 0, .int 0, .int 0, .int 0, .int 0, .int 0, .null, .null, .null, .null, .null, .null, .null, .null, .null, .null, .null])) (by omega) h50)
  have h51 := zfil (g := g) (b := 136) (c := 150) (by omega) (zup_ne (n := 136) (y := .inr (9, [.int 0, .int 0, .int 0, .int 0, .int 0, .int 0, .int 0, .int 0, .int 0, .null, .null, .null, .null, .null, .null, .null, .null, .null, .null, .null])) (by omega) h51)
  obtain ⟨vs136, hs136⟩ := gE0_st (g := g) gkc_136
  refine zk_astq (pc := 41) (a := 50) (b := 136) (q := 6) h (by omega) h50 (by omega) (zfil_in (by omega) hs136) (by decide) (by decide) dX4_init_41 ?_
  have hJ := zJ_put (a := 50) (x := .inl (g.2.2 3, 12, .inr (.inr (.inr (.inr (va_up (va_up (va_up (va_up (va_up (va_up (va_up (fun _ => none) 0 (some (g.1 + 52))) 1 (some (g.1 + 66))) 2 (some (g.1 + 80))) 3 (some (g.1 + 94))) 4 (some (g.1 + 108))) 5 (some (g.1 + 122))) 6 (some (g.1 + 136)))))))) (by omega) hJ
  have hv := zup_ne (n := 50) (y := .inl (g.2.2 3, 12, .inr (.inr (.inr (.inr (va_up (va_up (va_up (va_up (va_up (va_up (va_up (fun _ => none) 0 (some (g.1 + 52))) 1 (some (g.1 + 66))) 2 (some (g.1 + 80))) 3 (some (g.1 + 94))) 4 (some (g.1 + 108))) 5 (some (g.1 + 122))) 6 (some (g.1 + 136)))))))) (by omega) hv
  have h51 := zup_ne (n := 50) (y := .inl (g.2.2 3, 12, .inr (.inr (.inr (.inr (va_up (va_up (va_up (va_up (va_up (va_up (va_up (fun _ => none) 0 (some (g.1 + 52))) 1 (some (g.1 + 66))) 2 (some (g.1 + 80))) 3 (some (g.1 + 94))) 4 (some (g.1 + 108))) 5 (some (g.1 + 122))) 6 (some (g.1 + 136)))))))) (by omega) h51
  have h50 := zup_put (y := .inl (g.2.2 3, 12, .inr (.inr (.inr (.inr (va_up (va_up (va_up (va_up (va_up (va_up (va_up (fun _ => none) 0 (some (g.1 + 52))) 1 (some (g.1 + 66))) 2 (some (g.1 + 80))) 3 (some (g.1 + 94))) 4 (some (g.1 + 108))) 5 (some (g.1 + 122))) 6 (some (g.1 + 136)))))))) h50
  refine zk_iinc (pc := 42) (v := 7) h dX4_init_42 rfl (by decide) (by decide) rfl ?_
  refine zk_goto (pc := 45) (tgt := 23) h dX4_init_45 rfl ?_
  refine zk_iload_n (pc := 23) h dX4_init_23 rfl rfl ?_
  refine zk_bipush (pc := 24) (v := 12) h dX4_init_24 (by decide) ?_
  refine zk_icmp_ge (pc := 26) (tgt := 48) h dX4_init_26 rfl (fun q => absurd q (by decide)) (fun _ => ?_)
  refine zk_aload_n (pc := 29) h dX4_init_29 rfl rfl ?_
  refine zk_get (pc := 30) (a := 49) (c := 4) (j := 0) (v := .ref (g.1 + 50)) (fs := [.ref (g.1 + 50), .ref (g.1 + 51), .int 0, .int 0, .int 0]) h (by omega) hv rfl (by decide) rfl zu_X4 zv_599 rfl dX4_init_30 ?_
  refine zk_iload_n (pc := 33) h dX4_init_33 rfl rfl ?_
  refine zk_new (pc := 34) (c := 9) (fs := [.int 0, .int 0, .int 0, .int 0, .int 0, .int 0, .int 0, .int 0, .int 0, .null, .null, .null, .null, .null, .null, .null, .null, .null, .null, .null]) h rfl zu_X9 tyX9_ok zv_596 zv_435 zv_190 (by decide) (by dsimp only [gRk]; omega) (by dsimp only [gRk]; omega) dX4_init_34 ?_
  refine zk_dup (pc := 37) h dX4_init_37 rfl ?_
  refine zk_call (pc := 38) (mc1 := 13) (ms1 := 515) (n1 := 164) (host := "GateGroup") h zv_598 zv_437 zc_X9_init rfl ⟨by decide, by decide⟩ (kX9_init (a := 150) gkc_150 (zup_eq rfl)) rfl (Nat.le_of_ble_eq_true rfl) (by dsimp only [gRk]; omega) (by dsimp only [gRk]; omega) rfl dX4_init_38 rfl ?_
  have hJ := zJ_call (x := .inr (9, [.int 0, .int 0, .int 0, .int 0, .int 0, .int 0, .int 0, .int 0, .int 0, .null, .null, .null, .null, .null, .null, .null, .null, .null, .null, .null])) (n := 150) (n1 := 164) (by omega) (by omega) hJ
  have hv := zfil (g := g) (b := 150) (c := 164) (by omega) (zup_ne (n := 150) (y := .inr (9, [.int 0, .int 0, .int 0, .int 0, .int 0, .int 0, .int 0, .int 0, .int 0, .null, .null, .null, .null, .null, .null, .null, .null, .null, .null, .null])) (by omega) hv)
  have h50 := zfil (g := g) (b := 150) (c := 164) (by omega) (zup_ne (n := 150) (y := .inr (9, [.int 0, .int 0, .int 0, .int 0, .int 0, .int 0, .int 0, .int 0, .int 0, .null, .null, .null, .null, .null, .null, .null, .null, .null, .null, .null])) (by omega) h50)
  have h51 := zfil (g := g) (b := 150) (c := 164) (by omega) (zup_ne (n := 150) (y := .inr (9, [.int 0, .int 0, .int 0, .int 0, .int 0, .int 0, .int 0, .int 0, .int 0, .null, .null, .null, .null, .null, .null, .null, .null, .null, .null, .null])) (by omega) h51)
  obtain ⟨vs150, hs150⟩ := gE0_st (g := g) gkc_150
  refine zk_astq (pc := 41) (a := 50) (b := 150) (q := 7) h (by omega) h50 (by omega) (zfil_in (by omega) hs150) (by decide) (by decide) dX4_init_41 ?_
  have hJ := zJ_put (a := 50) (x := .inl (g.2.2 3, 12, .inr (.inr (.inr (.inr (va_up (va_up (va_up (va_up (va_up (va_up (va_up (va_up (fun _ => none) 0 (some (g.1 + 52))) 1 (some (g.1 + 66))) 2 (some (g.1 + 80))) 3 (some (g.1 + 94))) 4 (some (g.1 + 108))) 5 (some (g.1 + 122))) 6 (some (g.1 + 136))) 7 (some (g.1 + 150)))))))) (by omega) hJ
  have hv := zup_ne (n := 50) (y := .inl (g.2.2 3, 12, .inr (.inr (.inr (.inr (va_up (va_up (va_up (va_up (va_up (va_up (va_up (va_up (fun _ => none) 0 (some (g.1 + 52))) 1 (some (g.1 + 66))) 2 (some (g.1 + 80))) 3 (some (g.1 + 94))) 4 (some (g.1 + 108))) 5 (some (g.1 + 122))) 6 (some (g.1 + 136))) 7 (some (g.1 + 150)))))))) (by omega) hv
  have h51 := zup_ne (n := 50) (y := .inl (g.2.2 3, 12, .inr (.inr (.inr (.inr (va_up (va_up (va_up (va_up (va_up (va_up (va_up (va_up (fun _ => none) 0 (some (g.1 + 52))) 1 (some (g.1 + 66))) 2 (some (g.1 + 80))) 3 (some (g.1 + 94))) 4 (some (g.1 + 108))) 5 (some (g.1 + 122))) 6 (some (g.1 + 136))) 7 (some (g.1 + 150)))))))) (by omega) h51
  have h50 := zup_put (y := .inl (g.2.2 3, 12, .inr (.inr (.inr (.inr (va_up (va_up (va_up (va_up (va_up (va_up (va_up (va_up (fun _ => none) 0 (some (g.1 + 52))) 1 (some (g.1 + 66))) 2 (some (g.1 + 80))) 3 (some (g.1 + 94))) 4 (some (g.1 + 108))) 5 (some (g.1 + 122))) 6 (some (g.1 + 136))) 7 (some (g.1 + 150)))))))) h50
  refine zk_iinc (pc := 42) (v := 8) h dX4_init_42 rfl (by decide) (by decide) rfl ?_
  refine zk_goto (pc := 45) (tgt := 23) h dX4_init_45 rfl ?_
  refine zk_iload_n (pc := 23) h dX4_init_23 rfl rfl ?_
  refine zk_bipush (pc := 24) (v := 12) h dX4_init_24 (by decide) ?_
  refine zk_icmp_ge (pc := 26) (tgt := 48) h dX4_init_26 rfl (fun q => absurd q (by decide)) (fun _ => ?_)
  refine zk_aload_n (pc := 29) h dX4_init_29 rfl rfl ?_
  refine zk_get (pc := 30) (a := 49) (c := 4) (j := 0) (v := .ref (g.1 + 50)) (fs := [.ref (g.1 + 50), .ref (g.1 + 51), .int 0, .int 0, .int 0]) h (by omega) hv rfl (by decide) rfl zu_X4 zv_599 rfl dX4_init_30 ?_
  refine zk_iload_n (pc := 33) h dX4_init_33 rfl rfl ?_
  refine zk_new (pc := 34) (c := 9) (fs := [.int 0, .int 0, .int 0, .int 0, .int 0, .int 0, .int 0, .int 0, .int 0, .null, .null, .null, .null, .null, .null, .null, .null, .null, .null, .null]) h rfl zu_X9 tyX9_ok zv_596 zv_435 zv_190 (by decide) (by dsimp only [gRk]; omega) (by dsimp only [gRk]; omega) dX4_init_34 ?_
  refine zk_dup (pc := 37) h dX4_init_37 rfl ?_
  refine zk_call (pc := 38) (mc1 := 13) (ms1 := 515) (n1 := 178) (host := "GateGroup") h zv_598 zv_437 zc_X9_init rfl ⟨by decide, by decide⟩ (kX9_init (a := 164) gkc_164 (zup_eq rfl)) rfl (Nat.le_of_ble_eq_true rfl) (by dsimp only [gRk]; omega) (by dsimp only [gRk]; omega) rfl dX4_init_38 rfl ?_
  have hJ := zJ_call (x := .inr (9, [.int 0, .int 0, .int 0, .int 0, .int 0, .int 0, .int 0, .int 0, .int 0, .null, .null, .null, .null, .null, .null, .null, .null, .null, .null, .null])) (n := 164) (n1 := 178) (by omega) (by omega) hJ
  have hv := zfil (g := g) (b := 164) (c := 178) (by omega) (zup_ne (n := 164) (y := .inr (9, [.int 0, .int 0, .int 0, .int 0, .int 0, .int 0, .int 0, .int 0, .int 0, .null, .null, .null, .null, .null, .null, .null, .null, .null, .null, .null])) (by omega) hv)
  have h50 := zfil (g := g) (b := 164) (c := 178) (by omega) (zup_ne (n := 164) (y := .inr (9, [.int 0, .int 0, .int 0, .int 0, .int 0, .int 0, .int 0, .int 0, .int 0, .null, .null, .null, .null, .null, .null, .null, .null, .null, .null, .null])) (by omega) h50)
  have h51 := zfil (g := g) (b := 164) (c := 178) (by omega) (zup_ne (n := 164) (y := .inr (9, [.int 0, .int 0, .int 0, .int 0, .int 0, .int 0, .int 0, .int 0, .int 0, .null, .null, .null, .null, .null, .null, .null, .null, .null, .null, .null])) (by omega) h51)
  obtain ⟨vs164, hs164⟩ := gE0_st (g := g) gkc_164
  refine zk_astq (pc := 41) (a := 50) (b := 164) (q := 8) h (by omega) h50 (by omega) (zfil_in (by omega) hs164) (by decide) (by decide) dX4_init_41 ?_
  have hJ := zJ_put (a := 50) (x := .inl (g.2.2 3, 12, .inr (.inr (.inr (.inr (va_up (va_up (va_up (va_up (va_up (va_up (va_up (va_up (va_up (fun _ => none) 0 (some (g.1 + 52))) 1 (some (g.1 + 66))) 2 (some (g.1 + 80))) 3 (some (g.1 + 94))) 4 (some (g.1 + 108))) 5 (some (g.1 + 122))) 6 (some (g.1 + 136))) 7 (some (g.1 + 150))) 8 (some (g.1 + 164)))))))) (by omega) hJ
  have hv := zup_ne (n := 50) (y := .inl (g.2.2 3, 12, .inr (.inr (.inr (.inr (va_up (va_up (va_up (va_up (va_up (va_up (va_up (va_up (va_up (fun _ => none) 0 (some (g.1 + 52))) 1 (some (g.1 + 66))) 2 (some (g.1 + 80))) 3 (some (g.1 + 94))) 4 (some (g.1 + 108))) 5 (some (g.1 + 122))) 6 (some (g.1 + 136))) 7 (some (g.1 + 150))) 8 (some (g.1 + 164)))))))) (by omega) hv
  have h51 := zup_ne (n := 50) (y := .inl (g.2.2 3, 12, .inr (.inr (.inr (.inr (va_up (va_up (va_up (va_up (va_up (va_up (va_up (va_up (va_up (fun _ => none) 0 (some (g.1 + 52))) 1 (some (g.1 + 66))) 2 (some (g.1 + 80))) 3 (some (g.1 + 94))) 4 (some (g.1 + 108))) 5 (some (g.1 + 122))) 6 (some (g.1 + 136))) 7 (some (g.1 + 150))) 8 (some (g.1 + 164)))))))) (by omega) h51
  have h50 := zup_put (y := .inl (g.2.2 3, 12, .inr (.inr (.inr (.inr (va_up (va_up (va_up (va_up (va_up (va_up (va_up (va_up (va_up (fun _ => none) 0 (some (g.1 + 52))) 1 (some (g.1 + 66))) 2 (some (g.1 + 80))) 3 (some (g.1 + 94))) 4 (some (g.1 + 108))) 5 (some (g.1 + 122))) 6 (some (g.1 + 136))) 7 (some (g.1 + 150))) 8 (some (g.1 + 164)))))))) h50
  refine zk_iinc (pc := 42) (v := 9) h dX4_init_42 rfl (by decide) (by decide) rfl ?_
  refine zk_goto (pc := 45) (tgt := 23) h dX4_init_45 rfl ?_
  refine zk_iload_n (pc := 23) h dX4_init_23 rfl rfl ?_
  refine zk_bipush (pc := 24) (v := 12) h dX4_init_24 (by decide) ?_
  refine zk_icmp_ge (pc := 26) (tgt := 48) h dX4_init_26 rfl (fun q => absurd q (by decide)) (fun _ => ?_)
  refine zk_aload_n (pc := 29) h dX4_init_29 rfl rfl ?_
  refine zk_get (pc := 30) (a := 49) (c := 4) (j := 0) (v := .ref (g.1 + 50)) (fs := [.ref (g.1 + 50), .ref (g.1 + 51), .int 0, .int 0, .int 0]) h (by omega) hv rfl (by decide) rfl zu_X4 zv_599 rfl dX4_init_30 ?_
  refine zk_iload_n (pc := 33) h dX4_init_33 rfl rfl ?_
  refine zk_new (pc := 34) (c := 9) (fs := [.int 0, .int 0, .int 0, .int 0, .int 0, .int 0, .int 0, .int 0, .int 0, .null, .null, .null, .null, .null, .null, .null, .null, .null, .null, .null]) h rfl zu_X9 tyX9_ok zv_596 zv_435 zv_190 (by decide) (by dsimp only [gRk]; omega) (by dsimp only [gRk]; omega) dX4_init_34 ?_
  refine zk_dup (pc := 37) h dX4_init_37 rfl ?_
  refine zk_call (pc := 38) (mc1 := 13) (ms1 := 515) (n1 := 192) (host := "GateGroup") h zv_598 zv_437 zc_X9_init rfl ⟨by decide, by decide⟩ (kX9_init (a := 178) gkc_178 (zup_eq rfl)) rfl (Nat.le_of_ble_eq_true rfl) (by dsimp only [gRk]; omega) (by dsimp only [gRk]; omega) rfl dX4_init_38 rfl ?_
  have hJ := zJ_call (x := .inr (9, [.int 0, .int 0, .int 0, .int 0, .int 0, .int 0, .int 0, .int 0, .int 0, .null, .null, .null, .null, .null, .null, .null, .null, .null, .null, .null])) (n := 178) (n1 := 192) (by omega) (by omega) hJ
  have hv := zfil (g := g) (b := 178) (c := 192) (by omega) (zup_ne (n := 178) (y := .inr (9, [.int 0, .int 0, .int 0, .int 0, .int 0, .int 0, .int 0, .int 0, .int 0, .null, .null, .null, .null, .null, .null, .null, .null, .null, .null, .null])) (by omega) hv)
  have h50 := zfil (g := g) (b := 178) (c := 192) (by omega) (zup_ne (n := 178) (y := .inr (9, [.int 0, .int 0, .int 0, .int 0, .int 0, .int 0, .int 0, .int 0, .int 0, .null, .null, .null, .null, .null, .null, .null, .null, .null, .null, .null])) (by omega) h50)
  have h51 := zfil (g := g) (b := 178) (c := 192) (by omega) (zup_ne (n := 178) (y := .inr (9, [.int 0, .int 0, .int 0, .int 0, .int 0, .int 0, .int 0, .int 0, .int 0, .null, .null, .null, .null, .null, .null, .null, .null, .null, .null, .null])) (by omega) h51)
  obtain ⟨vs178, hs178⟩ := gE0_st (g := g) gkc_178
  refine zk_astq (pc := 41) (a := 50) (b := 178) (q := 9) h (by omega) h50 (by omega) (zfil_in (by omega) hs178) (by decide) (by decide) dX4_init_41 ?_
  have hJ := zJ_put (a := 50) (x := .inl (g.2.2 3, 12, .inr (.inr (.inr (.inr (va_up (va_up (va_up (va_up (va_up (va_up (va_up (va_up (va_up (va_up (fun _ => none) 0 (some (g.1 + 52))) 1 (some (g.1 + 66))) 2 (some (g.1 + 80))) 3 (some (g.1 + 94))) 4 (some (g.1 + 108))) 5 (some (g.1 + 122))) 6 (some (g.1 + 136))) 7 (some (g.1 + 150))) 8 (some (g.1 + 164))) 9 (some (g.1 + 178)))))))) (by omega) hJ
  have hv := zup_ne (n := 50) (y := .inl (g.2.2 3, 12, .inr (.inr (.inr (.inr (va_up (va_up (va_up (va_up (va_up (va_up (va_up (va_up (va_up (va_up (fun _ => none) 0 (some (g.1 + 52))) 1 (some (g.1 + 66))) 2 (some (g.1 + 80))) 3 (some (g.1 + 94))) 4 (some (g.1 + 108))) 5 (some (g.1 + 122))) 6 (some (g.1 + 136))) 7 (some (g.1 + 150))) 8 (some (g.1 + 164))) 9 (some (g.1 + 178)))))))) (by omega) hv
  have h51 := zup_ne (n := 50) (y := .inl (g.2.2 3, 12, .inr (.inr (.inr (.inr (va_up (va_up (va_up (va_up (va_up (va_up (va_up (va_up (va_up (va_up (fun _ => none) 0 (some (g.1 + 52))) 1 (some (g.1 + 66))) 2 (some (g.1 + 80))) 3 (some (g.1 + 94))) 4 (some (g.1 + 108))) 5 (some (g.1 + 122))) 6 (some (g.1 + 136))) 7 (some (g.1 + 150))) 8 (some (g.1 + 164))) 9 (some (g.1 + 178)))))))) (by omega) h51
  have h50 := zup_put (y := .inl (g.2.2 3, 12, .inr (.inr (.inr (.inr (va_up (va_up (va_up (va_up (va_up (va_up (va_up (va_up (va_up (va_up (fun _ => none) 0 (some (g.1 + 52))) 1 (some (g.1 + 66))) 2 (some (g.1 + 80))) 3 (some (g.1 + 94))) 4 (some (g.1 + 108))) 5 (some (g.1 + 122))) 6 (some (g.1 + 136))) 7 (some (g.1 + 150))) 8 (some (g.1 + 164))) 9 (some (g.1 + 178)))))))) h50
  refine zk_iinc (pc := 42) (v := 10) h dX4_init_42 rfl (by decide) (by decide) rfl ?_
  refine zk_goto (pc := 45) (tgt := 23) h dX4_init_45 rfl ?_
  refine zk_iload_n (pc := 23) h dX4_init_23 rfl rfl ?_
  refine zk_bipush (pc := 24) (v := 12) h dX4_init_24 (by decide) ?_
  refine zk_icmp_ge (pc := 26) (tgt := 48) h dX4_init_26 rfl (fun q => absurd q (by decide)) (fun _ => ?_)
  refine zk_aload_n (pc := 29) h dX4_init_29 rfl rfl ?_
  refine zk_get (pc := 30) (a := 49) (c := 4) (j := 0) (v := .ref (g.1 + 50)) (fs := [.ref (g.1 + 50), .ref (g.1 + 51), .int 0, .int 0, .int 0]) h (by omega) hv rfl (by decide) rfl zu_X4 zv_599 rfl dX4_init_30 ?_
  refine zk_iload_n (pc := 33) h dX4_init_33 rfl rfl ?_
  refine zk_new (pc := 34) (c := 9) (fs := [.int 0, .int 0, .int 0, .int 0, .int 0, .int 0, .int 0, .int 0, .int 0, .null, .null, .null, .null, .null, .null, .null, .null, .null, .null, .null]) h rfl zu_X9 tyX9_ok zv_596 zv_435 zv_190 (by decide) (by dsimp only [gRk]; omega) (by dsimp only [gRk]; omega) dX4_init_34 ?_
  refine zk_dup (pc := 37) h dX4_init_37 rfl ?_
  refine zk_call (pc := 38) (mc1 := 13) (ms1 := 515) (n1 := 206) (host := "GateGroup") h zv_598 zv_437 zc_X9_init rfl ⟨by decide, by decide⟩ (kX9_init (a := 192) gkc_192 (zup_eq rfl)) rfl (Nat.le_of_ble_eq_true rfl) (by dsimp only [gRk]; omega) (by dsimp only [gRk]; omega) rfl dX4_init_38 rfl ?_
  have hJ := zJ_call (x := .inr (9, [.int 0, .int 0, .int 0, .int 0, .int 0, .int 0, .int 0, .int 0, .int 0, .null, .null, .null, .null, .null, .null, .null, .null, .null, .null, .null])) (n := 192) (n1 := 206) (by omega) (by omega) hJ
  have hv := zfil (g := g) (b := 192) (c := 206) (by omega) (zup_ne (n := 192) (y := .inr (9, [.int 0, .int 0, .int 0, .int 0, .int 0, .int 0, .int 0, .int 0, .int 0, .null, .null, .null, .null, .null, .null, .null, .null, .null, .null, .null])) (by omega) hv)
  have h50 := zfil (g := g) (b := 192) (c := 206) (by omega) (zup_ne (n := 192) (y := .inr (9, [.int 0, .int 0, .int 0, .int 0, .int 0, .int 0, .int 0, .int 0, .int 0, .null, .null, .null, .null, .null, .null, .null, .null, .null, .null, .null])) (by omega) h50)
  have h51 := zfil (g := g) (b := 192) (c := 206) (by omega) (zup_ne (n := 192) (y := .inr (9, [.int 0, .int 0, .int 0, .int 0, .int 0, .int 0, .int 0, .int 0, .int 0, .null, .null, .null, .null, .null, .null, .null, .null, .null, .null, .null])) (by omega) h51)
  obtain ⟨vs192, hs192⟩ := gE0_st (g := g) gkc_192
  refine zk_astq (pc := 41) (a := 50) (b := 192) (q := 10) h (by omega) h50 (by omega) (zfil_in (by omega) hs192) (by decide) (by decide) dX4_init_41 ?_
  have hJ := zJ_put (a := 50) (x := .inl (g.2.2 3, 12, .inr (.inr (.inr (.inr (va_up (va_up (va_up (va_up (va_up (va_up (va_up (va_up (va_up (va_up (va_up (fun _ => none) 0 (some (g.1 + 52))) 1 (some (g.1 + 66))) 2 (some (g.1 + 80))) 3 (some (g.1 + 94))) 4 (some (g.1 + 108))) 5 (some (g.1 + 122))) 6 (some (g.1 + 136))) 7 (some (g.1 + 150))) 8 (some (g.1 + 164))) 9 (some (g.1 + 178))) 10 (some (g.1 + 192)))))))) (by omega) hJ
  have hv := zup_ne (n := 50) (y := .inl (g.2.2 3, 12, .inr (.inr (.inr (.inr (va_up (va_up (va_up (va_up (va_up (va_up (va_up (va_up (va_up (va_up (va_up (fun _ => none) 0 (some (g.1 + 52))) 1 (some (g.1 + 66))) 2 (some (g.1 + 80))) 3 (some (g.1 + 94))) 4 (some (g.1 + 108))) 5 (some (g.1 + 122))) 6 (some (g.1 + 136))) 7 (some (g.1 + 150))) 8 (some (g.1 + 164))) 9 (some (g.1 + 178))) 10 (some (g.1 + 192)))))))) (by omega) hv
  have h51 := zup_ne (n := 50) (y := .inl (g.2.2 3, 12, .inr (.inr (.inr (.inr (va_up (va_up (va_up (va_up (va_up (va_up (va_up (va_up (va_up (va_up (va_up (fun _ => none) 0 (some (g.1 + 52))) 1 (some (g.1 + 66))) 2 (some (g.1 + 80))) 3 (some (g.1 + 94))) 4 (some (g.1 + 108))) 5 (some (g.1 + 122))) 6 (some (g.1 + 136))) 7 (some (g.1 + 150))) 8 (some (g.1 + 164))) 9 (some (g.1 + 178))) 10 (some (g.1 + 192)))))))) (by omega) h51
  have h50 := zup_put (y := .inl (g.2.2 3, 12, .inr (.inr (.inr (.inr (va_up (va_up (va_up (va_up (va_up (va_up (va_up (va_up (va_up (va_up (va_up (fun _ => none) 0 (some (g.1 + 52))) 1 (some (g.1 + 66))) 2 (some (g.1 + 80))) 3 (some (g.1 + 94))) 4 (some (g.1 + 108))) 5 (some (g.1 + 122))) 6 (some (g.1 + 136))) 7 (some (g.1 + 150))) 8 (some (g.1 + 164))) 9 (some (g.1 + 178))) 10 (some (g.1 + 192)))))))) h50
  refine zk_iinc (pc := 42) (v := 11) h dX4_init_42 rfl (by decide) (by decide) rfl ?_
  refine zk_goto (pc := 45) (tgt := 23) h dX4_init_45 rfl ?_
  refine zk_iload_n (pc := 23) h dX4_init_23 rfl rfl ?_
  refine zk_bipush (pc := 24) (v := 12) h dX4_init_24 (by decide) ?_
  refine zk_icmp_ge (pc := 26) (tgt := 48) h dX4_init_26 rfl (fun q => absurd q (by decide)) (fun _ => ?_)
  refine zk_aload_n (pc := 29) h dX4_init_29 rfl rfl ?_
  refine zk_get (pc := 30) (a := 49) (c := 4) (j := 0) (v := .ref (g.1 + 50)) (fs := [.ref (g.1 + 50), .ref (g.1 + 51), .int 0, .int 0, .int 0]) h (by omega) hv rfl (by decide) rfl zu_X4 zv_599 rfl dX4_init_30 ?_
  refine zk_iload_n (pc := 33) h dX4_init_33 rfl rfl ?_
  refine zk_new (pc := 34) (c := 9) (fs := [.int 0, .int 0, .int 0, .int 0, .int 0, .int 0, .int 0, .int 0, .int 0, .null, .null, .null, .null, .null, .null, .null, .null, .null, .null, .null]) h rfl zu_X9 tyX9_ok zv_596 zv_435 zv_190 (by decide) (by dsimp only [gRk]; omega) (by dsimp only [gRk]; omega) dX4_init_34 ?_
  refine zk_dup (pc := 37) h dX4_init_37 rfl ?_
  refine zk_call (pc := 38) (mc1 := 13) (ms1 := 515) (n1 := 220) (host := "GateGroup") h zv_598 zv_437 zc_X9_init rfl ⟨by decide, by decide⟩ (kX9_init (a := 206) gkc_206 (zup_eq rfl)) rfl (Nat.le_of_ble_eq_true rfl) (by dsimp only [gRk]; omega) (by dsimp only [gRk]; omega) rfl dX4_init_38 rfl ?_
  have hJ := zJ_call (x := .inr (9, [.int 0, .int 0, .int 0, .int 0, .int 0, .int 0, .int 0, .int 0, .int 0, .null, .null, .null, .null, .null, .null, .null, .null, .null, .null, .null])) (n := 206) (n1 := 220) (by omega) (by omega) hJ
  have hv := zfil (g := g) (b := 206) (c := 220) (by omega) (zup_ne (n := 206) (y := .inr (9, [.int 0, .int 0, .int 0, .int 0, .int 0, .int 0, .int 0, .int 0, .int 0, .null, .null, .null, .null, .null, .null, .null, .null, .null, .null, .null])) (by omega) hv)
  have h50 := zfil (g := g) (b := 206) (c := 220) (by omega) (zup_ne (n := 206) (y := .inr (9, [.int 0, .int 0, .int 0, .int 0, .int 0, .int 0, .int 0, .int 0, .int 0, .null, .null, .null, .null, .null, .null, .null, .null, .null, .null, .null])) (by omega) h50)
  have h51 := zfil (g := g) (b := 206) (c := 220) (by omega) (zup_ne (n := 206) (y := .inr (9, [.int 0, .int 0, .int 0, .int 0, .int 0, .int 0, .int 0, .int 0, .int 0, .null, .null, .null, .null, .null, .null, .null, .null, .null, .null, .null])) (by omega) h51)
  obtain ⟨vs206, hs206⟩ := gE0_st (g := g) gkc_206
  refine zk_astq (pc := 41) (a := 50) (b := 206) (q := 11) h (by omega) h50 (by omega) (zfil_in (by omega) hs206) (by decide) (by decide) dX4_init_41 ?_
  have hJ := zJ_put (a := 50) (x := .inl (g.2.2 3, 12, .inr (.inr (.inr (.inr (va_up (va_up (va_up (va_up (va_up (va_up (va_up (va_up (va_up (va_up (va_up (va_up (fun _ => none) 0 (some (g.1 + 52))) 1 (some (g.1 + 66))) 2 (some (g.1 + 80))) 3 (some (g.1 + 94))) 4 (some (g.1 + 108))) 5 (some (g.1 + 122))) 6 (some (g.1 + 136))) 7 (some (g.1 + 150))) 8 (some (g.1 + 164))) 9 (some (g.1 + 178))) 10 (some (g.1 + 192))) 11 (some (g.1 + 206)))))))) (by omega) hJ
  have hv := zup_ne (n := 50) (y := .inl (g.2.2 3, 12, .inr (.inr (.inr (.inr (va_up (va_up (va_up (va_up (va_up (va_up (va_up (va_up (va_up (va_up (va_up (va_up (fun _ => none) 0 (some (g.1 + 52))) 1 (some (g.1 + 66))) 2 (some (g.1 + 80))) 3 (some (g.1 + 94))) 4 (some (g.1 + 108))) 5 (some (g.1 + 122))) 6 (some (g.1 + 136))) 7 (some (g.1 + 150))) 8 (some (g.1 + 164))) 9 (some (g.1 + 178))) 10 (some (g.1 + 192))) 11 (some (g.1 + 206)))))))) (by omega) hv
  have h51 := zup_ne (n := 50) (y := .inl (g.2.2 3, 12, .inr (.inr (.inr (.inr (va_up (va_up (va_up (va_up (va_up (va_up (va_up (va_up (va_up (va_up (va_up (va_up (fun _ => none) 0 (some (g.1 + 52))) 1 (some (g.1 + 66))) 2 (some (g.1 + 80))) 3 (some (g.1 + 94))) 4 (some (g.1 + 108))) 5 (some (g.1 + 122))) 6 (some (g.1 + 136))) 7 (some (g.1 + 150))) 8 (some (g.1 + 164))) 9 (some (g.1 + 178))) 10 (some (g.1 + 192))) 11 (some (g.1 + 206)))))))) (by omega) h51
  have h50 := zup_put (y := .inl (g.2.2 3, 12, .inr (.inr (.inr (.inr (va_up (va_up (va_up (va_up (va_up (va_up (va_up (va_up (va_up (va_up (va_up (va_up (fun _ => none) 0 (some (g.1 + 52))) 1 (some (g.1 + 66))) 2 (some (g.1 + 80))) 3 (some (g.1 + 94))) 4 (some (g.1 + 108))) 5 (some (g.1 + 122))) 6 (some (g.1 + 136))) 7 (some (g.1 + 150))) 8 (some (g.1 + 164))) 9 (some (g.1 + 178))) 10 (some (g.1 + 192))) 11 (some (g.1 + 206)))))))) h50
  refine zk_iinc (pc := 42) (v := 12) h dX4_init_42 rfl (by decide) (by decide) rfl ?_
  refine zk_goto (pc := 45) (tgt := 23) h dX4_init_45 rfl ?_
  refine zk_iload_n (pc := 23) h dX4_init_23 rfl rfl ?_
  refine zk_bipush (pc := 24) (v := 12) h dX4_init_24 (by decide) ?_
  refine zk_icmp_ge (pc := 26) (tgt := 48) h dX4_init_26 rfl (fun _ => ?_) (fun q => absurd (by decide) q)
  refine zk_iconst (pc := 48) (v := 0) h dX4_init_48 (by decide) ?_
  refine zk_istore_n (pc := 49) h dX4_init_49 rfl (by decide) rfl ?_
  refine zk_iload_n (pc := 50) h dX4_init_50 rfl rfl ?_
  refine zk_iconst (pc := 51) (v := 2) h dX4_init_51 (by decide) ?_
  refine zk_icmp_ge (pc := 52) (tgt := 74) h dX4_init_52 rfl (fun q => absurd q (by decide)) (fun _ => ?_)
  refine zk_aload_n (pc := 55) h dX4_init_55 rfl rfl ?_
  refine zk_get (pc := 56) (a := 49) (c := 4) (j := 1) (v := .ref (g.1 + 51)) (fs := [.ref (g.1 + 50), .ref (g.1 + 51), .int 0, .int 0, .int 0]) h (by omega) hv rfl (by decide) rfl zu_X4 zv_600 rfl dX4_init_56 ?_
  refine zk_iload_n (pc := 59) h dX4_init_59 rfl rfl ?_
  refine zk_new (pc := 60) (c := 9) (fs := [.int 0, .int 0, .int 0, .int 0, .int 0, .int 0, .int 0, .int 0, .int 0, .null, .null, .null, .null, .null, .null, .null, .null, .null, .null, .null]) h rfl zu_X9 tyX9_ok zv_596 zv_435 zv_190 (by decide) (by dsimp only [gRk]; omega) (by dsimp only [gRk]; omega) dX4_init_60 ?_
  refine zk_dup (pc := 63) h dX4_init_63 rfl ?_
  refine zk_call (pc := 64) (mc1 := 13) (ms1 := 515) (n1 := 234) (host := "GateGroup") h zv_598 zv_437 zc_X9_init rfl ⟨by decide, by decide⟩ (kX9_init (a := 220) gkc_220 (zup_eq rfl)) rfl (Nat.le_of_ble_eq_true rfl) (by dsimp only [gRk]; omega) (by dsimp only [gRk]; omega) rfl dX4_init_64 rfl ?_
  have hJ := zJ_call (x := .inr (9, [.int 0, .int 0, .int 0, .int 0, .int 0, .int 0, .int 0, .int 0, .int 0, .null, .null, .null, .null, .null, .null, .null, .null, .null, .null, .null])) (n := 220) (n1 := 234) (by omega) (by omega) hJ
  have hv := zfil (g := g) (b := 220) (c := 234) (by omega) (zup_ne (n := 220) (y := .inr (9, [.int 0, .int 0, .int 0, .int 0, .int 0, .int 0, .int 0, .int 0, .int 0, .null, .null, .null, .null, .null, .null, .null, .null, .null, .null, .null])) (by omega) hv)
  have h50 := zfil (g := g) (b := 220) (c := 234) (by omega) (zup_ne (n := 220) (y := .inr (9, [.int 0, .int 0, .int 0, .int 0, .int 0, .int 0, .int 0, .int 0, .int 0, .null, .null, .null, .null, .null, .null, .null, .null, .null, .null, .null])) (by omega) h50)
  have h51 := zfil (g := g) (b := 220) (c := 234) (by omega) (zup_ne (n := 220) (y := .inr (9, [.int 0, .int 0, .int 0, .int 0, .int 0, .int 0, .int 0, .int 0, .int 0, .null, .null, .null, .null, .null, .null, .null, .null, .null, .null, .null])) (by omega) h51)
  obtain ⟨vs220, hs220⟩ := gE0_st (g := g) gkc_220
  refine zk_astq (pc := 67) (a := 51) (b := 220) (q := 0) h (by omega) h51 (by omega) (zfil_in (by omega) hs220) (by decide) (by decide) dX4_init_67 ?_
  have hJ := zJ_put (a := 51) (x := .inl (g.2.2 3, 2, .inr (.inr (.inr (.inr (va_up (fun _ => none) 0 (some (g.1 + 220)))))))) (by omega) hJ
  have hv := zup_ne (n := 51) (y := .inl (g.2.2 3, 2, .inr (.inr (.inr (.inr (va_up (fun _ => none) 0 (some (g.1 + 220)))))))) (by omega) hv
  have h50 := zup_ne (n := 51) (y := .inl (g.2.2 3, 2, .inr (.inr (.inr (.inr (va_up (fun _ => none) 0 (some (g.1 + 220)))))))) (by omega) h50
  have h51 := zup_put (y := .inl (g.2.2 3, 2, .inr (.inr (.inr (.inr (va_up (fun _ => none) 0 (some (g.1 + 220)))))))) h51
  refine zk_iinc (pc := 68) (v := 1) h dX4_init_68 rfl (by decide) (by decide) rfl ?_
  refine zk_goto (pc := 71) (tgt := 50) h dX4_init_71 rfl ?_
  refine zk_iload_n (pc := 50) h dX4_init_50 rfl rfl ?_
  refine zk_iconst (pc := 51) (v := 2) h dX4_init_51 (by decide) ?_
  refine zk_icmp_ge (pc := 52) (tgt := 74) h dX4_init_52 rfl (fun q => absurd q (by decide)) (fun _ => ?_)
  refine zk_aload_n (pc := 55) h dX4_init_55 rfl rfl ?_
  refine zk_get (pc := 56) (a := 49) (c := 4) (j := 1) (v := .ref (g.1 + 51)) (fs := [.ref (g.1 + 50), .ref (g.1 + 51), .int 0, .int 0, .int 0]) h (by omega) hv rfl (by decide) rfl zu_X4 zv_600 rfl dX4_init_56 ?_
  refine zk_iload_n (pc := 59) h dX4_init_59 rfl rfl ?_
  refine zk_new (pc := 60) (c := 9) (fs := [.int 0, .int 0, .int 0, .int 0, .int 0, .int 0, .int 0, .int 0, .int 0, .null, .null, .null, .null, .null, .null, .null, .null, .null, .null, .null]) h rfl zu_X9 tyX9_ok zv_596 zv_435 zv_190 (by decide) (by dsimp only [gRk]; omega) (by dsimp only [gRk]; omega) dX4_init_60 ?_
  refine zk_dup (pc := 63) h dX4_init_63 rfl ?_
  refine zk_call (pc := 64) (mc1 := 13) (ms1 := 515) (n1 := 248) (host := "GateGroup") h zv_598 zv_437 zc_X9_init rfl ⟨by decide, by decide⟩ (kX9_init (a := 234) gkc_234 (zup_eq rfl)) rfl (Nat.le_of_ble_eq_true rfl) (by dsimp only [gRk]; omega) (by dsimp only [gRk]; omega) rfl dX4_init_64 rfl ?_
  have hJ := zJ_call (x := .inr (9, [.int 0, .int 0, .int 0, .int 0, .int 0, .int 0, .int 0, .int 0, .int 0, .null, .null, .null, .null, .null, .null, .null, .null, .null, .null, .null])) (n := 234) (n1 := 248) (by omega) (by omega) hJ
  have hv := zfil (g := g) (b := 234) (c := 248) (by omega) (zup_ne (n := 234) (y := .inr (9, [.int 0, .int 0, .int 0, .int 0, .int 0, .int 0, .int 0, .int 0, .int 0, .null, .null, .null, .null, .null, .null, .null, .null, .null, .null, .null])) (by omega) hv)
  have h50 := zfil (g := g) (b := 234) (c := 248) (by omega) (zup_ne (n := 234) (y := .inr (9, [.int 0, .int 0, .int 0, .int 0, .int 0, .int 0, .int 0, .int 0, .int 0, .null, .null, .null, .null, .null, .null, .null, .null, .null, .null, .null])) (by omega) h50)
  have h51 := zfil (g := g) (b := 234) (c := 248) (by omega) (zup_ne (n := 234) (y := .inr (9, [.int 0, .int 0, .int 0, .int 0, .int 0, .int 0, .int 0, .int 0, .int 0, .null, .null, .null, .null, .null, .null, .null, .null, .null, .null, .null])) (by omega) h51)
  obtain ⟨vs234, hs234⟩ := gE0_st (g := g) gkc_234
  refine zk_astq (pc := 67) (a := 51) (b := 234) (q := 1) h (by omega) h51 (by omega) (zfil_in (by omega) hs234) (by decide) (by decide) dX4_init_67 ?_
  have hJ := zJ_put (a := 51) (x := .inl (g.2.2 3, 2, .inr (.inr (.inr (.inr (va_up (va_up (fun _ => none) 0 (some (g.1 + 220))) 1 (some (g.1 + 234)))))))) (by omega) hJ
  have hv := zup_ne (n := 51) (y := .inl (g.2.2 3, 2, .inr (.inr (.inr (.inr (va_up (va_up (fun _ => none) 0 (some (g.1 + 220))) 1 (some (g.1 + 234)))))))) (by omega) hv
  have h50 := zup_ne (n := 51) (y := .inl (g.2.2 3, 2, .inr (.inr (.inr (.inr (va_up (va_up (fun _ => none) 0 (some (g.1 + 220))) 1 (some (g.1 + 234)))))))) (by omega) h50
  have h51 := zup_put (y := .inl (g.2.2 3, 2, .inr (.inr (.inr (.inr (va_up (va_up (fun _ => none) 0 (some (g.1 + 220))) 1 (some (g.1 + 234)))))))) h51
  refine zk_iinc (pc := 68) (v := 2) h dX4_init_68 rfl (by decide) (by decide) rfl ?_
  refine zk_goto (pc := 71) (tgt := 50) h dX4_init_71 rfl ?_
  refine zk_iload_n (pc := 50) h dX4_init_50 rfl rfl ?_
  refine zk_iconst (pc := 51) (v := 2) h dX4_init_51 (by decide) ?_
  refine zk_icmp_ge (pc := 52) (tgt := 74) h dX4_init_52 rfl (fun _ => ?_) (fun q => absurd (by decide) q)
  exact zk_retq (pc := 74) h rfl rfl rfl (zJ_end hJ (hv.trans (gE0_obj gkc_49 rfl)) h50 h51 (fun i hi => by
    have q : i = 0 ∨ i = 1 ∨ i = 2 ∨ i = 3 ∨ i = 4 ∨ i = 5 ∨ i = 6 ∨ i = 7 ∨ i = 8 ∨ i = 9 ∨ i = 10 ∨ i = 11 := by omega
    rcases q with rfl | rfl | rfl | rfl | rfl | rfl | rfl | rfl | rfl | rfl | rfl | rfl <;> rfl) (fun i hi => by
    have q : i = 0 ∨ i = 1 := by omega
    rcases q with rfl | rfl <;> rfl)) dX4_init_74
