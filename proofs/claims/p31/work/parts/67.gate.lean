theorem zv_205 : (Cond.methodLink RX11 1 objectInit) ∈ gwL := gwt_1 26 (by decide +kernel) rfl
theorem zv_208 : (Cond.classLink RX11 7 RX7) ∈ gwL := gwt_1 29 (by decide +kernel) rfl
theorem zv_209 : (Cond.instantiable RX7 9) ∈ gwL := gwt_1 30 (by decide +kernel) rfl
theorem zv_210 : (Cond.methodLinkNest RX11 9 yX7_init RX11) ∈ gwL := gwt_1 31 (by decide +kernel) rfl
theorem zv_211 : (Cond.instanceMethod yX7_init) ∈ gwL := gwt_1 32 (by decide +kernel) rfl
theorem zv_656 : (Cond.fieldLink RX11 10 RX11 "reade\x72" "LGateGroup$Reader;") ∈ gwL := gwt_2 237 (by decide +kernel) rfl
theorem zv_299 : (Cond.classLink RX11 16 RX1) ∈ gwL := gwt_1 120 (by decide +kernel) rfl
theorem zv_301 : (Cond.methodLinkNest RX11 18 yX1_init RX11) ∈ gwL := gwt_1 122 (by decide +kernel) rfl
theorem zv_657 : (Cond.fieldLink RX11 19 RX11 "net" "LGateGroup$Net;") ∈ gwL := gwt_2 238 (by decide +kernel) rfl
theorem zv_382 : (Cond.classLink RX11 23 RX2) ∈ gwL := gwt_1 203 (by decide +kernel) rfl
theorem zv_383 : (Cond.instantiable RX2 2) ∈ gwL := gwt_1 204 (by decide +kernel) rfl
theorem zv_384 : (Cond.methodLinkNest RX11 25 yX2_init RX11) ∈ gwL := gwt_1 205 (by decide +kernel) rfl
theorem zv_385 : (Cond.instanceMethod yX2_init) ∈ gwL := gwt_1 206 (by decide +kernel) rfl
theorem zv_658 : (Cond.fieldLink RX11 28 RX11 "netReade\x72" "LGateGroup$NetReader;") ∈ gwL := gwt_2 239 (by decide +kernel) rfl
theorem zv_398 : (Cond.classLink RX11 32 RX6) ∈ gwL := gwt_1 219 (by decide +kernel) rfl
theorem zv_399 : (Cond.instantiable RX6 3) ∈ gwL := gwt_1 220 (by decide +kernel) rfl
theorem zv_400 : (Cond.methodLinkNest RX11 34 yX6_init RX11) ∈ gwL := gwt_1 221 (by decide +kernel) rfl
theorem zv_401 : (Cond.instanceMethod yX6_init) ∈ gwL := gwt_1 222 (by decide +kernel) rfl
theorem zv_659 : (Cond.fieldLink RX11 37 RX11 "planReade\x72" "LGateGroup$PlanReader;") ∈ gwL := gwt_3 0 (by decide +kernel) rfl
theorem zv_434 : (Cond.classLink RX11 41 RX9) ∈ gwL := gwt_2 15 (by decide +kernel) rfl
theorem zv_436 : (Cond.methodLinkNest RX11 43 yX9_init RX11) ∈ gwL := gwt_2 17 (by decide +kernel) rfl
theorem zv_660 : (Cond.fieldLink RX11 44 RX11 "now" "LGateGroup$State;") ∈ gwL := gwt_3 1 (by decide +kernel) rfl
theorem zv_567 : (Cond.classLink RX11 48 RX10) ∈ gwL := gwt_2 148 (by decide +kernel) rfl
theorem zv_569 : (Cond.methodLinkNest RX11 50 yX10_init RX11) ∈ gwL := gwt_2 150 (by decide +kernel) rfl
theorem zv_661 : (Cond.fieldLink RX11 53 RX11 "works" "LGateGroup$Works;") ∈ gwL := gwt_3 2 (by decide +kernel) rfl
theorem zv_590 : (Cond.classLink RX11 57 RX4) ∈ gwL := gwt_2 171 (by decide +kernel) rfl
theorem zv_591 : (Cond.instantiable RX4 5) ∈ gwL := gwt_2 172 (by decide +kernel) rfl
theorem zv_592 : (Cond.methodLinkNest RX11 59 yX4_init RX11) ∈ gwL := gwt_2 173 (by decide +kernel) rfl
theorem zv_593 : (Cond.instanceMethod yX4_init) ∈ gwL := gwt_2 174 (by decide +kernel) rfl
theorem zv_662 : (Cond.fieldLink RX11 60 RX11 "past" "LGateGroup$Past;") ∈ gwL := gwt_3 3 (by decide +kernel) rfl
theorem zv_616 : (Cond.classLink RX11 64 RX3) ∈ gwL := gwt_2 197 (by decide +kernel) rfl
theorem zv_617 : (Cond.instantiable RX3 3) ∈ gwL := gwt_2 198 (by decide +kernel) rfl
theorem zv_618 : (Cond.methodLinkNest RX11 66 yX3_init RX11) ∈ gwL := gwt_2 199 (by decide +kernel) rfl
theorem zv_619 : (Cond.instanceMethod yX3_init) ∈ gwL := gwt_2 200 (by decide +kernel) rfl
theorem zv_663 : (Cond.fieldLink RX11 67 RX11 "pape\x72" "LGateGroup$Paper;") ∈ gwL := gwt_3 4 (by decide +kernel) rfl
theorem zv_636 : (Cond.classLink RX11 71 RX8) ∈ gwL := gwt_2 217 (by decide +kernel) rfl
theorem zv_637 : (Cond.instantiable RX8 4) ∈ gwL := gwt_2 218 (by decide +kernel) rfl
theorem zv_638 : (Cond.methodLinkNest RX11 73 yX8_init RX11) ∈ gwL := gwt_2 219 (by decide +kernel) rfl
theorem zv_639 : (Cond.instanceMethod yX8_init) ∈ gwL := gwt_2 220 (by decide +kernel) rfl
theorem zv_664 : (Cond.fieldLink RX11 74 RX11 "spread" "LGateGroup$Spread;") ∈ gwL := gwt_3 5 (by decide +kernel) rfl
set_option maxRecDepth 100000 in
set_option maxHeartbeats 4000000 in
theorem kX11_init {l : Launch} {g : gG} {e : Nat → va_E} {q v : Nat} (hv : e 0 = .inr (11, [.null, .null, .null, .null, .null, .null, .null, .null, .null])) : gMkS l g yX11_init cX11_init 1 5 135 266 10643 [.ref (g.1 + 0)] 1 e 267 (gFill g e 0 267) q v := by
  refine gMkS_of (gIni [.ref (g.1 + 0)] ++ List.replicate 0 none) (by decide) rfl (gIni_ok _ _) (Nat.le_of_ble_eq_true rfl) (fun K h => ?_)
  show K 0 [some (.ref (g.1 + 0))] [] 1 e 0
  have hc := h.c
  have hI := zI_0 g 0 e
  refine zk_aload_n (pc := 0) hc dX11_init_0 rfl rfl ?_
  refine zk_obj (pc := 1) hc zv_205 zv_206 zv_207 (by decide) (Nat.le_of_ble_eq_true rfl) dX11_init_1 ?_
  refine zk_aload_n (pc := 4) hc dX11_init_4 rfl rfl ?_
  refine zk_new (pc := 5) (c := 7) (fs := [.null, .null, .int 0, .int 0, .int 0, .int 0, .int 0, .int 0, .int 0]) hc rfl zu_X7 tyX7_ok zv_208 zv_209 zv_181 (by decide) (by dsimp only [gRk]; omega) (by dsimp only [gRk]; omega) dX11_init_5 ?_
  refine zk_dup (pc := 8) hc dX11_init_8 rfl ?_
  refine zk_callS (pc := 9) (mc1 := 2) (ms1 := 1521) (n1 := 4) (host := "GateGroup") h zv_210 zv_211 zc_X7_init rfl ⟨by decide, by decide⟩ (kX7_init (zup_eq rfl)) rfl (Nat.le_of_ble_eq_true rfl) (by dsimp only [gRk]; omega) (by dsimp only [gRk]; omega) (by omega) dX11_init_9 rfl ?_
  have hI := zI_call (x := .inr (7, [.null, .null, .int 0, .int 0, .int 0, .int 0, .int 0, .int 0, .int 0])) (n1 := 4) (by omega) (by omega) hI
  have hv := zfil (g := g) (b := 1) (c := 4) (by omega) (zup_ne (n := 1) (y := .inr (7, [.null, .null, .int 0, .int 0, .int 0, .int 0, .int 0, .int 0, .int 0])) (by omega) hv)
  refine zk_putF (pc := 12) (a := 0) (c := 11) (j := 0) (fs := [.null, .null, .null, .null, .null, .null, .null, .null, .null]) hc (by omega) hv rfl (by decide) rfl rfl zu_X11 zv_656 tyX11_ok nmX11 rfl rfl rfl (Nat.le_of_ble_eq_true rfl) dX11_init_12 ?_
  have hI := zI_put (x := .inr (11, [.ref (g.1 + 1), .null, .null, .null, .null, .null, .null, .null, .null])) hI
  have hv := zup_put (y := .inr (11, [.ref (g.1 + 1), .null, .null, .null, .null, .null, .null, .null, .null])) hv
  refine zk_aload_n (pc := 15) hc dX11_init_15 rfl rfl ?_
  refine zk_new (pc := 16) (c := 1) (fs := [.int 0, .null, .null, .null, .null, .null, .null, .null, .null, .null, .int 0, .null, .null, .null]) hc rfl zu_X1 tyX1_ok zv_299 zv_300 zv_186 (by decide) (by dsimp only [gRk]; omega) (by dsimp only [gRk]; omega) dX11_init_16 ?_
  refine zk_dup (pc := 19) hc dX11_init_19 rfl ?_
  refine zk_call (pc := 20) (mc1 := 12) (ms1 := 184) (n1 := 17) (host := "GateGroup") hc zv_301 zv_302 zc_X1_init rfl ⟨by decide, by decide⟩ (kX1_init gkc_4 (zup_eq rfl)) rfl (Nat.le_of_ble_eq_true rfl) (by dsimp only [gRk]; omega) (by dsimp only [gRk]; omega) (by omega) dX11_init_20 rfl ?_
  have hI := zI_call (x := .inr (1, [.int 0, .null, .null, .null, .null, .null, .null, .null, .null, .null, .int 0, .null, .null, .null])) (n1 := 17) (by omega) (by omega) hI
  have hv := zfil (g := g) (b := 4) (c := 17) (by omega) (zup_ne (n := 4) (y := .inr (1, [.int 0, .null, .null, .null, .null, .null, .null, .null, .null, .null, .int 0, .null, .null, .null])) (by omega) hv)
  refine zk_putF (pc := 23) (a := 0) (c := 11) (j := 1) (fs := [.ref (g.1 + 1), .null, .null, .null, .null, .null, .null, .null, .null]) hc (by omega) hv rfl (by decide) rfl rfl zu_X11 zv_657 tyX11_ok nmX11 rfl rfl rfl (Nat.le_of_ble_eq_true rfl) dX11_init_23 ?_
  have hI := zI_put (x := .inr (11, [.ref (g.1 + 1), .ref (g.1 + 4), .null, .null, .null, .null, .null, .null, .null])) hI
  have hv := zup_put (y := .inr (11, [.ref (g.1 + 1), .ref (g.1 + 4), .null, .null, .null, .null, .null, .null, .null])) hv
  refine zk_aload_n (pc := 26) hc dX11_init_26 rfl rfl ?_
  refine zk_new (pc := 27) (c := 2) (fs := [.null, .null]) hc rfl zu_X2 tyX2_ok zv_382 zv_383 zv_187 (by decide) (by dsimp only [gRk]; omega) (by dsimp only [gRk]; omega) dX11_init_27 ?_
  refine zk_dup (pc := 30) hc dX11_init_30 rfl ?_
  refine zk_aload_n (pc := 31) hc dX11_init_31 rfl rfl ?_
  refine zk_get (pc := 32) (a := 0) (c := 11) (j := 0) (v := .ref (g.1 + 1)) (fs := [.ref (g.1 + 1), .ref (g.1 + 4), .null, .null, .null, .null, .null, .null, .null]) hc (by omega) hv rfl (by decide) rfl zu_X11 zv_656 rfl dX11_init_32 ?_
  refine zk_call (pc := 35) (mc1 := 13) (ms1 := 198) (n1 := 31) (host := "GateGroup") hc zv_384 zv_385 zc_X2_init rfl ⟨by decide, by decide⟩ (kX2_init (zup_eq rfl)) rfl (Nat.le_of_ble_eq_true rfl) (by dsimp only [gRk]; omega) (by dsimp only [gRk]; omega) (by omega) dX11_init_35 rfl ?_
  have hI := zI_call (x := .inr (2, [.null, .null])) (n1 := 31) (by omega) (by omega) hI
  have hv := zfil (g := g) (b := 17) (c := 31) (by omega) (zup_ne (n := 17) (y := .inr (2, [.null, .null])) (by omega) hv)
  refine zk_putF (pc := 38) (a := 0) (c := 11) (j := 2) (fs := [.ref (g.1 + 1), .ref (g.1 + 4), .null, .null, .null, .null, .null, .null, .null]) hc (by omega) hv rfl (by decide) rfl rfl zu_X11 zv_658 tyX11_ok nmX11 rfl rfl rfl (Nat.le_of_ble_eq_true rfl) dX11_init_38 ?_
  have hI := zI_put (x := .inr (11, [.ref (g.1 + 1), .ref (g.1 + 4), .ref (g.1 + 17), .null, .null, .null, .null, .null, .null])) hI
  have hv := zup_put (y := .inr (11, [.ref (g.1 + 1), .ref (g.1 + 4), .ref (g.1 + 17), .null, .null, .null, .null, .null, .null])) hv
  refine zk_aload_n (pc := 41) hc dX11_init_41 rfl rfl ?_
  refine zk_new (pc := 42) (c := 6) (fs := [.null, .null, .null]) hc rfl zu_X6 tyX6_ok zv_398 zv_399 zv_188 (by decide) (by dsimp only [gRk]; omega) (by dsimp only [gRk]; omega) dX11_init_42 ?_
  refine zk_dup (pc := 45) hc dX11_init_45 rfl ?_
  refine zk_aload_n (pc := 46) hc dX11_init_46 rfl rfl ?_
  refine zk_get (pc := 47) (a := 0) (c := 11) (j := 0) (v := .ref (g.1 + 1)) (fs := [.ref (g.1 + 1), .ref (g.1 + 4), .ref (g.1 + 17), .null, .null, .null, .null, .null, .null]) hc (by omega) hv rfl (by decide) rfl zu_X11 zv_656 rfl dX11_init_47 ?_
  refine zk_aload_n (pc := 50) hc dX11_init_50 rfl rfl ?_
  refine zk_get (pc := 51) (a := 0) (c := 11) (j := 1) (v := .ref (g.1 + 4)) (fs := [.ref (g.1 + 1), .ref (g.1 + 4), .ref (g.1 + 17), .null, .null, .null, .null, .null, .null]) hc (by omega) hv rfl (by decide) rfl zu_X11 zv_657 rfl dX11_init_51 ?_
  refine zk_call (pc := 54) (mc1 := 2) (ms1 := 102) (n1 := 34) (host := "GateGroup") hc zv_400 zv_401 zc_X6_init rfl ⟨by decide, by decide⟩ (kX6_init (zup_eq rfl)) rfl (Nat.le_of_ble_eq_true rfl) (by dsimp only [gRk]; omega) (by dsimp only [gRk]; omega) (by omega) dX11_init_54 rfl ?_
  have hI := zI_call (x := .inr (6, [.null, .null, .null])) (n1 := 34) (by omega) (by omega) hI
  have hv := zfil (g := g) (b := 31) (c := 34) (by omega) (zup_ne (n := 31) (y := .inr (6, [.null, .null, .null])) (by omega) hv)
  refine zk_putF (pc := 57) (a := 0) (c := 11) (j := 3) (fs := [.ref (g.1 + 1), .ref (g.1 + 4), .ref (g.1 + 17), .null, .null, .null, .null, .null, .null]) hc (by omega) hv rfl (by decide) rfl rfl zu_X11 zv_659 tyX11_ok nmX11 rfl rfl rfl (Nat.le_of_ble_eq_true rfl) dX11_init_57 ?_
  have hI := zI_put (x := .inr (11, [.ref (g.1 + 1), .ref (g.1 + 4), .ref (g.1 + 17), .ref (g.1 + 31), .null, .null, .null, .null, .null])) hI
  have hv := zup_put (y := .inr (11, [.ref (g.1 + 1), .ref (g.1 + 4), .ref (g.1 + 17), .ref (g.1 + 31), .null, .null, .null, .null, .null])) hv
  refine zk_aload_n (pc := 60) hc dX11_init_60 rfl rfl ?_
  refine zk_new (pc := 61) (c := 9) (fs := [.int 0, .int 0, .int 0, .int 0, .int 0, .int 0, .int 0, .int 0, .int 0, .null, .null, .null, .null, .null, .null, .null, .null, .null, .null, .null]) hc rfl zu_X9 tyX9_ok zv_434 zv_435 zv_190 (by decide) (by dsimp only [gRk]; omega) (by dsimp only [gRk]; omega) dX11_init_61 ?_
  refine zk_dup (pc := 64) hc dX11_init_64 rfl ?_
  refine zk_call (pc := 65) (mc1 := 13) (ms1 := 515) (n1 := 48) (host := "GateGroup") hc zv_436 zv_437 zc_X9_init rfl ⟨by decide, by decide⟩ (kX9_init gkc_34 (zup_eq rfl)) rfl (Nat.le_of_ble_eq_true rfl) (by dsimp only [gRk]; omega) (by dsimp only [gRk]; omega) (by omega) dX11_init_65 rfl ?_
  have hI := zI_call (x := .inr (9, [.int 0, .int 0, .int 0, .int 0, .int 0, .int 0, .int 0, .int 0, .int 0, .null, .null, .null, .null, .null, .null, .null, .null, .null, .null, .null])) (n1 := 48) (by omega) (by omega) hI
  have hv := zfil (g := g) (b := 34) (c := 48) (by omega) (zup_ne (n := 34) (y := .inr (9, [.int 0, .int 0, .int 0, .int 0, .int 0, .int 0, .int 0, .int 0, .int 0, .null, .null, .null, .null, .null, .null, .null, .null, .null, .null, .null])) (by omega) hv)
  refine zk_putF (pc := 68) (a := 0) (c := 11) (j := 4) (fs := [.ref (g.1 + 1), .ref (g.1 + 4), .ref (g.1 + 17), .ref (g.1 + 31), .null, .null, .null, .null, .null]) hc (by omega) hv rfl (by decide) rfl rfl zu_X11 zv_660 tyX11_ok nmX11 rfl rfl rfl (Nat.le_of_ble_eq_true rfl) dX11_init_68 ?_
  have hI := zI_put (x := .inr (11, [.ref (g.1 + 1), .ref (g.1 + 4), .ref (g.1 + 17), .ref (g.1 + 31), .ref (g.1 + 34), .null, .null, .null, .null])) hI
  have hv := zup_put (y := .inr (11, [.ref (g.1 + 1), .ref (g.1 + 4), .ref (g.1 + 17), .ref (g.1 + 31), .ref (g.1 + 34), .null, .null, .null, .null])) hv
  refine zk_aload_n (pc := 71) hc dX11_init_71 rfl rfl ?_
  refine zk_new (pc := 72) (c := 10) (fs := [.null, .null, .int 0, .int 0, .int 0]) hc rfl zu_X10 tyX10_ok zv_567 zv_568 zv_192 (by decide) (by dsimp only [gRk]; omega) (by dsimp only [gRk]; omega) dX11_init_72 ?_
  refine zk_dup (pc := 75) hc dX11_init_75 rfl ?_
  refine zk_aload_n (pc := 76) hc dX11_init_76 rfl rfl ?_
  refine zk_get (pc := 77) (a := 0) (c := 11) (j := 1) (v := .ref (g.1 + 4)) (fs := [.ref (g.1 + 1), .ref (g.1 + 4), .ref (g.1 + 17), .ref (g.1 + 31), .ref (g.1 + 34), .null, .null, .null, .null]) hc (by omega) hv rfl (by decide) rfl zu_X11 zv_657 rfl dX11_init_77 ?_
  refine zk_aload_n (pc := 80) hc dX11_init_80 rfl rfl ?_
  refine zk_get (pc := 81) (a := 0) (c := 11) (j := 4) (v := .ref (g.1 + 34)) (fs := [.ref (g.1 + 1), .ref (g.1 + 4), .ref (g.1 + 17), .ref (g.1 + 31), .ref (g.1 + 34), .null, .null, .null, .null]) hc (by omega) hv rfl (by decide) rfl zu_X11 zv_660 rfl dX11_init_81 ?_
  refine zk_call (pc := 84) (mc1 := 0) (ms1 := 0) (n1 := 49) (host := "GateGroup") hc zv_569 zv_570 zc_X10_init rfl ⟨by decide, by decide⟩ (kX10_init (a := 34) gkc_48 (zup_eq rfl)) rfl (Nat.le_of_ble_eq_true rfl) (by dsimp only [gRk]; omega) (by dsimp only [gRk]; omega) (by omega) dX11_init_84 rfl ?_
  have hI := zI_call (x := .inr (10, [.null, .null, .int 0, .int 0, .int 0])) (n1 := 49) (by omega) (by omega) hI
  have hv := zfil (g := g) (b := 48) (c := 49) (by omega) (zup_ne (n := 48) (y := .inr (10, [.null, .null, .int 0, .int 0, .int 0])) (by omega) hv)
  refine zk_putF (pc := 87) (a := 0) (c := 11) (j := 5) (fs := [.ref (g.1 + 1), .ref (g.1 + 4), .ref (g.1 + 17), .ref (g.1 + 31), .ref (g.1 + 34), .null, .null, .null, .null]) hc (by omega) hv rfl (by decide) rfl rfl zu_X11 zv_661 tyX11_ok nmX11 rfl rfl rfl (Nat.le_of_ble_eq_true rfl) dX11_init_87 ?_
  have hI := zI_put (x := .inr (11, [.ref (g.1 + 1), .ref (g.1 + 4), .ref (g.1 + 17), .ref (g.1 + 31), .ref (g.1 + 34), .ref (g.1 + 48), .null, .null, .null])) hI
  have hv := zup_put (y := .inr (11, [.ref (g.1 + 1), .ref (g.1 + 4), .ref (g.1 + 17), .ref (g.1 + 31), .ref (g.1 + 34), .ref (g.1 + 48), .null, .null, .null])) hv
  refine zk_aload_n (pc := 90) hc dX11_init_90 rfl rfl ?_
  refine zk_new (pc := 91) (c := 4) (fs := [.null, .null, .int 0, .int 0, .int 0]) hc rfl zu_X4 tyX4_ok zv_590 zv_591 zv_193 (by decide) (by dsimp only [gRk]; omega) (by dsimp only [gRk]; omega) dX11_init_91 ?_
  refine zk_dup (pc := 94) hc dX11_init_94 rfl ?_
  refine zk_call (pc := 95) (mc1 := 198) (ms1 := 7504) (n1 := 248) (host := "GateGroup") hc zv_592 zv_593 zc_X4_init rfl ⟨by decide, by decide⟩ (kX4_init (zup_eq rfl)) rfl (Nat.le_of_ble_eq_true rfl) (by dsimp only [gRk]; omega) (by dsimp only [gRk]; omega) (by omega) dX11_init_95 rfl ?_
  have hI := zI_call (x := .inr (4, [.null, .null, .int 0, .int 0, .int 0])) (n1 := 248) (by omega) (by omega) hI
  have hv := zfil (g := g) (b := 49) (c := 248) (by omega) (zup_ne (n := 49) (y := .inr (4, [.null, .null, .int 0, .int 0, .int 0])) (by omega) hv)
  refine zk_putF (pc := 98) (a := 0) (c := 11) (j := 6) (fs := [.ref (g.1 + 1), .ref (g.1 + 4), .ref (g.1 + 17), .ref (g.1 + 31), .ref (g.1 + 34), .ref (g.1 + 48), .null, .null, .null]) hc (by omega) hv rfl (by decide) rfl rfl zu_X11 zv_662 tyX11_ok nmX11 rfl rfl rfl (Nat.le_of_ble_eq_true rfl) dX11_init_98 ?_
  have hI := zI_put (x := .inr (11, [.ref (g.1 + 1), .ref (g.1 + 4), .ref (g.1 + 17), .ref (g.1 + 31), .ref (g.1 + 34), .ref (g.1 + 48), .ref (g.1 + 49), .null, .null])) hI
  have hv := zup_put (y := .inr (11, [.ref (g.1 + 1), .ref (g.1 + 4), .ref (g.1 + 17), .ref (g.1 + 31), .ref (g.1 + 34), .ref (g.1 + 48), .ref (g.1 + 49), .null, .null])) hv
  refine zk_aload_n (pc := 101) hc dX11_init_101 rfl rfl ?_
  refine zk_new (pc := 102) (c := 3) (fs := [.null, .null, .null]) hc rfl zu_X3 tyX3_ok zv_616 zv_617 zv_194 (by decide) (by dsimp only [gRk]; omega) (by dsimp only [gRk]; omega) dX11_init_102 ?_
  refine zk_dup (pc := 105) hc dX11_init_105 rfl ?_
  refine zk_aload_n (pc := 106) hc dX11_init_106 rfl rfl ?_
  refine zk_get (pc := 107) (a := 0) (c := 11) (j := 1) (v := .ref (g.1 + 4)) (fs := [.ref (g.1 + 1), .ref (g.1 + 4), .ref (g.1 + 17), .ref (g.1 + 31), .ref (g.1 + 34), .ref (g.1 + 48), .ref (g.1 + 49), .null, .null]) hc (by omega) hv rfl (by decide) rfl zu_X11 zv_657 rfl dX11_init_107 ?_
  refine zk_aload_n (pc := 110) hc dX11_init_110 rfl rfl ?_
  refine zk_get (pc := 111) (a := 0) (c := 11) (j := 4) (v := .ref (g.1 + 34)) (fs := [.ref (g.1 + 1), .ref (g.1 + 4), .ref (g.1 + 17), .ref (g.1 + 31), .ref (g.1 + 34), .ref (g.1 + 48), .ref (g.1 + 49), .null, .null]) hc (by omega) hv rfl (by decide) rfl zu_X11 zv_660 rfl dX11_init_111 ?_
  refine zk_call (pc := 114) (mc1 := 15) (ms1 := 540) (n1 := 264) (host := "GateGroup") hc zv_618 zv_619 zc_X3_init rfl ⟨by decide, by decide⟩ (kX3_init (zup_eq rfl)) rfl (Nat.le_of_ble_eq_true rfl) (by dsimp only [gRk]; omega) (by dsimp only [gRk]; omega) (by omega) dX11_init_114 rfl ?_
  have hI := zI_call (x := .inr (3, [.null, .null, .null])) (n1 := 264) (by omega) (by omega) hI
  have hv := zfil (g := g) (b := 248) (c := 264) (by omega) (zup_ne (n := 248) (y := .inr (3, [.null, .null, .null])) (by omega) hv)
  refine zk_putF (pc := 117) (a := 0) (c := 11) (j := 7) (fs := [.ref (g.1 + 1), .ref (g.1 + 4), .ref (g.1 + 17), .ref (g.1 + 31), .ref (g.1 + 34), .ref (g.1 + 48), .ref (g.1 + 49), .null, .null]) hc (by omega) hv rfl (by decide) rfl rfl zu_X11 zv_663 tyX11_ok nmX11 rfl rfl rfl (Nat.le_of_ble_eq_true rfl) dX11_init_117 ?_
  have hI := zI_put (x := .inr (11, [.ref (g.1 + 1), .ref (g.1 + 4), .ref (g.1 + 17), .ref (g.1 + 31), .ref (g.1 + 34), .ref (g.1 + 48), .ref (g.1 + 49), .ref (g.1 + 248), .null])) hI
  have hv := zup_put (y := .inr (11, [.ref (g.1 + 1), .ref (g.1 + 4), .ref (g.1 + 17), .ref (g.1 + 31), .ref (g.1 + 34), .ref (g.1 + 48), .ref (g.1 + 49), .ref (g.1 + 248), .null])) hv
  refine zk_aload_n (pc := 120) hc dX11_init_120 rfl rfl ?_
  refine zk_new (pc := 121) (c := 8) (fs := [.null, .null, .null, .null]) hc rfl zu_X8 tyX8_ok zv_636 zv_637 zv_195 (by decide) (by dsimp only [gRk]; omega) (by dsimp only [gRk]; omega) dX11_init_121 ?_
  refine zk_dup (pc := 124) hc dX11_init_124 rfl ?_
  refine zk_aload_n (pc := 125) hc dX11_init_125 rfl rfl ?_
  refine zk_get (pc := 126) (a := 0) (c := 11) (j := 1) (v := .ref (g.1 + 4)) (fs := [.ref (g.1 + 1), .ref (g.1 + 4), .ref (g.1 + 17), .ref (g.1 + 31), .ref (g.1 + 34), .ref (g.1 + 48), .ref (g.1 + 49), .ref (g.1 + 248), .null]) hc (by omega) hv rfl (by decide) rfl zu_X11 zv_657 rfl dX11_init_126 ?_
  refine zk_aload_n (pc := 129) hc dX11_init_129 rfl rfl ?_
  refine zk_get (pc := 130) (a := 0) (c := 11) (j := 4) (v := .ref (g.1 + 34)) (fs := [.ref (g.1 + 1), .ref (g.1 + 4), .ref (g.1 + 17), .ref (g.1 + 31), .ref (g.1 + 34), .ref (g.1 + 48), .ref (g.1 + 49), .ref (g.1 + 248), .null]) hc (by omega) hv rfl (by decide) rfl zu_X11 zv_660 rfl dX11_init_130 ?_
  refine zk_call (pc := 133) (mc1 := 2) (ms1 := 14) (n1 := 267) (host := "GateGroup") hc zv_638 zv_639 zc_X8_init rfl ⟨by decide, by decide⟩ (kX8_init (zup_eq rfl)) rfl (Nat.le_of_ble_eq_true rfl) (by dsimp only [gRk]; omega) (by dsimp only [gRk]; omega) (by omega) dX11_init_133 rfl ?_
  have hI := zI_call (x := .inr (8, [.null, .null, .null, .null])) (n1 := 267) (by omega) (by omega) hI
  have hv := zfil (g := g) (b := 264) (c := 267) (by omega) (zup_ne (n := 264) (y := .inr (8, [.null, .null, .null, .null])) (by omega) hv)
  refine zk_putF (pc := 136) (a := 0) (c := 11) (j := 8) (fs := [.ref (g.1 + 1), .ref (g.1 + 4), .ref (g.1 + 17), .ref (g.1 + 31), .ref (g.1 + 34), .ref (g.1 + 48), .ref (g.1 + 49), .ref (g.1 + 248), .null]) hc (by omega) hv rfl (by decide) rfl rfl zu_X11 zv_664 tyX11_ok nmX11 rfl rfl rfl (Nat.le_of_ble_eq_true rfl) dX11_init_136 ?_
  have hI := zI_put (x := .inr (11, [.ref (g.1 + 1), .ref (g.1 + 4), .ref (g.1 + 17), .ref (g.1 + 31), .ref (g.1 + 34), .ref (g.1 + 48), .ref (g.1 + 49), .ref (g.1 + 248), .ref (g.1 + 264)])) hI
  have hv := zup_put (y := .inr (11, [.ref (g.1 + 1), .ref (g.1 + 4), .ref (g.1 + 17), .ref (g.1 + 31), .ref (g.1 + 34), .ref (g.1 + 48), .ref (g.1 + 49), .ref (g.1 + 248), .ref (g.1 + 264)])) hv
  exact zk_ret (pc := 139) hc rfl (by omega) rfl (zI_end hI (hv.trans (gE0_obj gkc_0 rfl)) (by omega)) dX11_init_139

