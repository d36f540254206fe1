set_option maxRecDepth 100000 in
set_option maxHeartbeats 4000000 in
theorem kX5_init {l : Launch} {g : gG} {a : Nat} {e : Nat → va_E} (ha : gk a = (0, 5)) (hv : e a = .inr (5, [.int 0, .null])) : gMk l g yX5_init cX5_init 1 1 12 1 100 [.ref (g.1 + a)] (a + 1) e (a + 2) (gFill g e a (a + 2)) := by
  obtain ⟨hb1, hb2⟩ := gb_X5 ha
  have hz0 := gM0_z (a := a) (by omega) (by omega) (by omega)
  have hz1 := gM0_z (a := a + 1) (by omega) (by omega) (by omega)
  refine gMk_of (gIni [.ref (g.1 + a)] ++ List.replicate 0 none) (by decide) rfl (gIni_ok _ _) (Nat.le_of_ble_eq_true rfl) (fun K h => ?_)
  show K 0 [some (.ref (g.1 + a))] [] (a + 1) e 0
  have hI := zI_0 g a e
  refine zk_aload_n (pc := 0) h dX5_init_0 rfl rfl ?_
  refine zk_obj (pc := 1) h zv_409 zv_206 zv_207 (by decide) (Nat.le_of_ble_eq_true rfl) dX5_init_1 ?_
  refine zk_aload_n (pc := 4) h dX5_init_4 rfl rfl ?_
  refine zk_bipush (pc := 5) (v := (100 : Int32)) h dX5_init_5 (by decide) ?_
  refine zk_new_int (pc := 7) (N := 100) h (by decide) (by decide) (by decide) (by dsimp only [gRk]; omega) (by dsimp only [gRk]; omega) dX5_init_7 ?_
  have hI := zI_push (by omega) (gE0_arr (gd_X5_1 ha) hz1) hI
  have hv := zup_ne (n := (a + 1)) (y := .inl (g.2.2 0, 100, .inl (fun _ => 0))) (by omega) hv
  refine zk_putF (pc := 9) (a := a) (c := 5) (j := 1) (fs := [.int 0, .null]) h (by omega) hv rfl (by decide) rfl rfl zu_X5 zv_415 tyX5_ok nmX5 rfl rfl rfl (Nat.le_of_ble_eq_true rfl) dX5_init_9 ?_
  have hI := zI_put (x := .inr (5, [.int 0, .ref (g.1 + (a + 1))])) hI
  have hv := zup_put (y := .inr (5, [.int 0, .ref (g.1 + (a + 1))])) hv
  exact zk_ret (pc := 12) h rfl (by omega) rfl (zI_end hI (hv.trans (gE0_obj ha (by rw [hz0]; rfl))) (by omega)) dX5_init_12

set_option maxRecDepth 100000 in
set_option maxHeartbeats 4000000 in
theorem kX0_init {l : Launch} {g : gG} {a : Nat} {e : Nat → va_E} (ha : gk a = (0, 0)) (hv : e a = .inr (0, [.int 0, .int 0, .null])) : gMk l g yX0_init cX0_init 1 1 12 1 240 [.ref (g.1 + a)] (a + 1) e (a + 2) (gFill g e a (a + 2)) := by
  obtain ⟨hb1, hb2⟩ := gb_X0 ha
  have hz0 := gM0_z (a := a) (by omega) (by omega) (by omega)
  have hz1 := gM0_z (a := a + 1) (by omega) (by omega) (by omega)
  refine gMk_of (gIni [.ref (g.1 + a)] ++ List.replicate 0 none) (by decide) rfl (gIni_ok _ _) (Nat.le_of_ble_eq_true rfl) (fun K h => ?_)
  show K 0 [some (.ref (g.1 + a))] [] (a + 1) e 0
  have hI := zI_0 g a e
  refine zk_aload_n (pc := 0) h dX0_init_0 rfl rfl ?_
  refine zk_obj (pc := 1) h zv_447 zv_206 zv_207 (by decide) (Nat.le_of_ble_eq_true rfl) dX0_init_1 ?_
  refine zk_aload_n (pc := 4) h dX0_init_4 rfl rfl ?_
  refine zk_sipush (pc := 5) (v := (240 : Int32)) h dX0_init_5 (by decide) ?_
  refine zk_new_int (pc := 8) (N := 240) h (by decide) (by decide) (by decide) (by dsimp only [gRk]; omega) (by dsimp only [gRk]; omega) dX0_init_8 ?_
  have hI := zI_push (by omega) (gE0_arr (gd_X0_2 ha) hz1) hI
  have hv := zup_ne (n := (a + 1)) (y := .inl (g.2.2 0, 240, .inl (fun _ => 0))) (by omega) hv
  refine zk_putF (pc := 10) (a := a) (c := 0) (j := 2) (fs := [.int 0, .int 0, .null]) h (by omega) hv rfl (by decide) rfl rfl zu_X0 zv_452 tyX0_ok nmX0 rfl rfl rfl (Nat.le_of_ble_eq_true rfl) dX0_init_10 ?_
  have hI := zI_put (x := .inr (0, [.int 0, .int 0, .ref (g.1 + (a + 1))])) hI
  have hv := zup_put (y := .inr (0, [.int 0, .int 0, .ref (g.1 + (a + 1))])) hv
  exact zk_ret (pc := 13) h rfl (by omega) rfl (zI_end hI (hv.trans (gE0_obj ha (by rw [hz0]; rfl))) (by omega)) dX0_init_13

set_option maxRecDepth 100000 in
set_option maxHeartbeats 4000000 in
theorem kX9_init {l : Launch} {g : gG} {a : Nat} {e : Nat → va_E} (ha : gk a = (0, 9)) (hv : e a = .inr (9, [.int 0, .int 0, .int 0, .int 0, .int 0, .int 0, .int 0, .int 0, .int 0, .null, .null, .null, .null, .null, .null, .null, .null, .null, .null, .null])) : gMk l g yX9_init cX9_init 1 2 32 13 515 [.ref (g.1 + a)] (a + 1) e (a + 14) (gFill g e a (a + 14)) := by
  obtain ⟨hb1, hb2⟩ := gb_X9 ha
  have hz0 := gM0_z (a := a) (by omega) (by omega) (by omega)
  have hz5 := gM0_z (a := (a + 5)) (by omega) (by omega) (by omega)
  have hz6 := gM0_z (a := (a + 6)) (by omega) (by omega) (by omega)
  have hz7 := gM0_z (a := (a + 7)) (by omega) (by omega) (by omega)
  have hz8 := gM0_z (a := (a + 8)) (by omega) (by omega) (by omega)
  have hz9 := gM0_z (a := (a + 9)) (by omega) (by omega) (by omega)
  have hz10 := gM0_z (a := (a + 10)) (by omega) (by omega) (by omega)
  have hz11 := gM0_z (a := (a + 11)) (by omega) (by omega) (by omega)
  have hz12 := gM0_z (a := (a + 12)) (by omega) (by omega) (by omega)
  have hz13 := gM0_z (a := (a + 13)) (by omega) (by omega) (by omega)
  refine gMk_of (gIni [.ref (g.1 + a)] ++ List.replicate 0 none) (by decide) rfl (gIni_ok _ _) (Nat.le_of_ble_eq_true rfl) (fun K h => ?_)
  show K 0 [some (.ref (g.1 + a))] [] (a + 1) e 0
  have hI := zI_0 g a e
  refine zk_aload_n (pc := 0) h dX9_init_0 rfl rfl ?_
  refine zk_obj (pc := 1) h zv_439 zv_206 zv_207 (by decide) (Nat.le_of_ble_eq_true rfl) dX9_init_1 ?_
  refine zk_aload_n (pc := 4) h dX9_init_4 rfl rfl ?_
  refine zk_new (pc := 5) (c := 5) (fs := [.int 0, .null]) h rfl zu_X5 tyX5_ok zv_440 zv_405 zv_189 (by decide) (by dsimp only [gRk]; omega) (by dsimp only [gRk]; omega) dX9_init_5 ?_
  refine zk_dup (pc := 8) h dX9_init_8 rfl ?_
  refine zk_call (pc := 9) (mc1 := 1) (ms1 := 100) (n1 := (a + 3)) (host := "GateGroup") h zv_441 zv_407 zc_X5_init rfl ⟨by decide, by decide⟩ (kX5_init (gd_X9_9 ha) (zup_eq rfl)) rfl (Nat.le_of_ble_eq_true rfl) (by dsimp only [gRk]; omega) (by dsimp only [gRk]; omega) (by omega) dX9_init_9 rfl ?_
  have hI := zI_call (x := .inr (5, [.int 0, .null])) (n1 := (a + 3)) (by omega) (by omega) hI
  have hv := zfil (g := g) (b := (a + 1)) (c := (a + 3)) (by omega) (zup_ne (n := (a + 1)) (y := .inr (5, [.int 0, .null])) (by omega) hv)
  refine zk_putF (pc := 12) (a := a) (c := 9) (j := 9) (fs := [.int 0, .int 0, .int 0, .int 0, .int 0, .int 0, .int 0, .int 0, .int 0, .null, .null, .null, .null, .null, .null, .null, .null, .null, .null, .null]) h (by omega) hv rfl (by decide) rfl rfl zu_X9 zv_491 tyX9_ok nmX9 rfl rfl rfl (Nat.le_of_ble_eq_true rfl) dX9_init_12 ?_
  have hI := zI_put (x := .inr (9, [.int 0, .int 0, .int 0, .int 0, .int 0, .int 0, .int 0, .int 0, .int 0, .ref (g.1 + (a + 1)), .null, .null, .null, .null, .null, .null, .null, .null, .null, .null])) hI
  have hv := zup_put (y := .inr (9, [.int 0, .int 0, .int 0, .int 0, .int 0, .int 0, .int 0, .int 0, .int 0, .ref (g.1 + (a + 1)), .null, .null, .null, .null, .null, .null, .null, .null, .null, .null])) hv
  refine zk_aload_n (pc := 15) h dX9_init_15 rfl rfl ?_
  refine zk_new (pc := 16) (c := 0) (fs := [.int 0, .int 0, .null]) h rfl zu_X0 tyX0_ok zv_442 zv_443 zv_191 (by decide) (by dsimp only [gRk]; omega) (by dsimp only [gRk]; omega) dX9_init_16 ?_
  refine zk_dup (pc := 19) h dX9_init_19 rfl ?_
  refine zk_call (pc := 20) (mc1 := 1) (ms1 := 240) (n1 := (a + 5)) (host := "GateGroup") h zv_444 zv_445 zc_X0_init rfl ⟨by decide, by decide⟩ (kX0_init (gd_X9_10 ha) (zup_eq rfl)) rfl (Nat.le_of_ble_eq_true rfl) (by dsimp only [gRk]; omega) (by dsimp only [gRk]; omega) (by omega) dX9_init_20 rfl ?_
  have hI := zI_call (x := .inr (0, [.int 0, .int 0, .null])) (n1 := (a + 5)) (by omega) (by omega) hI
  have hv := zfil (g := g) (b := (a + 3)) (c := (a + 5)) (by omega) (zup_ne (n := (a + 3)) (y := .inr (0, [.int 0, .int 0, .null])) (by omega) hv)
  refine zk_putF (pc := 23) (a := a) (c := 9) (j := 10) (fs := [.int 0, .int 0, .int 0, .int 0, .int 0, .int 0, .int 0, .int 0, .int 0, .ref (g.1 + (a + 1)), .null, .null, .null, .null, .null, .null, .null, .null, .null, .null]) h (by omega) hv rfl (by decide) rfl rfl zu_X9 zv_494 tyX9_ok nmX9 rfl rfl rfl (Nat.le_of_ble_eq_true rfl) dX9_init_23 ?_
  have hI := zI_put (x := .inr (9, [.int 0, .int 0, .int 0, .int 0, .int 0, .int 0, .int 0, .int 0, .int 0, .ref (g.1 + (a + 1)), .ref (g.1 + (a + 3)), .null, .null, .null, .null, .null, .null, .null, .null, .null])) hI
  have hv := zup_put (y := .inr (9, [.int 0, .int 0, .int 0, .int 0, .int 0, .int 0, .int 0, .int 0, .int 0, .ref (g.1 + (a + 1)), .ref (g.1 + (a + 3)), .null, .null, .null, .null, .null, .null, .null, .null, .null])) hv
  refine zk_aload_n (pc := 26) h dX9_init_26 rfl rfl ?_
  refine zk_iconst (pc := 27) (v := (5 : Int32)) h dX9_init_27 (by decide) ?_
  refine zk_new_int (pc := 28) (N := 5) h (by decide) (by decide) (by decide) (by dsimp only [gRk]; omega) (by dsimp only [gRk]; omega) dX9_init_28 ?_
  have hI := zI_push (by omega) (gE0_arr (gd_X9_11 ha) hz5) hI
  have hv := zup_ne (n := (a + 5)) (y := .inl (g.2.2 0, 5, .inl (fun _ => 0))) (by omega) hv
  refine zk_putF (pc := 30) (a := a) (c := 9) (j := 11) (fs := [.int 0, .int 0, .int 0, .int 0, .int 0, .int 0, .int 0, .int 0, .int 0, .ref (g.1 + (a + 1)), .ref (g.1 + (a + 3)), .null, .null, .null, .null, .null, .null, .null, .null, .null]) h (by omega) hv rfl (by decide) rfl rfl zu_X9 zv_497 tyX9_ok nmX9 rfl rfl rfl (Nat.le_of_ble_eq_true rfl) dX9_init_30 ?_
  have hI := zI_put (x := .inr (9, [.int 0, .int 0, .int 0, .int 0, .int 0, .int 0, .int 0, .int 0, .int 0, .ref (g.1 + (a + 1)), .ref (g.1 + (a + 3)), .ref (g.1 + (a + 5)), .null, .null, .null, .null, .null, .null, .null, .null])) hI
  have hv := zup_put (y := .inr (9, [.int 0, .int 0, .int 0, .int 0, .int 0, .int 0, .int 0, .int 0, .int 0, .ref (g.1 + (a + 1)), .ref (g.1 + (a + 3)), .ref (g.1 + (a + 5)), .null, .null, .null, .null, .null, .null, .null, .null])) hv
  refine zk_aload_n (pc := 33) h dX9_init_33 rfl rfl ?_
  refine zk_iconst (pc := 34) (v := (5 : Int32)) h dX9_init_34 (by decide) ?_
  refine zk_new_int (pc := 35) (N := 5) h (by decide) (by decide) (by decide) (by dsimp only [gRk]; omega) (by dsimp only [gRk]; omega) dX9_init_35 ?_
  have hI := zI_push (by omega) (gE0_arr (gd_X9_12 ha) hz6) hI
  have hv := zup_ne (n := (a + 6)) (y := .inl (g.2.2 0, 5, .inl (fun _ => 0))) (by omega) hv
  refine zk_putF (pc := 37) (a := a) (c := 9) (j := 12) (fs := [.int 0, .int 0, .int 0, .int 0, .int 0, .int 0, .int 0, .int 0, .int 0, .ref (g.1 + (a + 1)), .ref (g.1 + (a + 3)), .ref (g.1 + (a + 5)), .null, .null, .null, .null, .null, .null, .null, .null]) h (by omega) hv rfl (by decide) rfl rfl zu_X9 zv_501 tyX9_ok nmX9 rfl rfl rfl (Nat.le_of_ble_eq_true rfl) dX9_init_37 ?_
  have hI := zI_put (x := .inr (9, [.int 0, .int 0, .int 0, .int 0, .int 0, .int 0, .int 0, .int 0, .int 0, .ref (g.1 + (a + 1)), .ref (g.1 + (a + 3)), .ref (g.1 + (a + 5)), .ref (g.1 + (a + 6)), .null, .null, .null, .null, .null, .null, .null])) hI
  have hv := zup_put (y := .inr (9, [.int 0, .int 0, .int 0, .int 0, .int 0, .int 0, .int 0, .int 0, .int 0, .ref (g.1 + (a + 1)), .ref (g.1 + (a + 3)), .ref (g.1 + (a + 5)), .ref (g.1 + (a + 6)), .null, .null, .null, .null, .null, .null, .null])) hv
  refine zk_aload_n (pc := 40) h dX9_init_40 rfl rfl ?_
  refine zk_iconst (pc := 41) (v := (5 : Int32)) h dX9_init_41 (by decide) ?_
  refine zk_new_int (pc := 42) (N := 5) h (by decide) (by decide) (by decide) (by dsimp only [gRk]; omega) (by dsimp only [gRk]; omega) dX9_init_42 ?_
  have hI := zI_push (by omega) (gE0_arr (gd_X9_13 ha) hz7) hI
  have hv := zup_ne (n := (a + 7)) (y := .inl (g.2.2 0, 5, .inl (fun _ => 0))) (by omega) hv
  refine zk_putF (pc := 44) (a := a) (c := 9) (j := 13) (fs := [.int 0, .int 0, .int 0, .int 0, .int 0, .int 0, .int 0, .int 0, .int 0, .ref (g.1 + (a + 1)), .ref (g.1 + (a + 3)), .ref (g.1 + (a + 5)), .ref (g.1 + (a + 6)), .null, .null, .null, .null, .null, .null, .null]) h (by omega) hv rfl (by decide) rfl rfl zu_X9 zv_504 tyX9_ok nmX9 rfl rfl rfl (Nat.le_of_ble_eq_true rfl) dX9_init_44 ?_
  have hI := zI_put (x := .inr (9, [.int 0, .int 0, .int 0, .int 0, .int 0, .int 0, .int 0, .int 0, .int 0, .ref (g.1 + (a + 1)), .ref (g.1 + (a + 3)), .ref (g.1 + (a + 5)), .ref (g.1 + (a + 6)), .ref (g.1 + (a + 7)), .null, .null, .null, .null, .null, .null])) hI
  have hv := zup_put (y := .inr (9, [.int 0, .int 0, .int 0, .int 0, .int 0, .int 0, .int 0, .int 0, .int 0, .ref (g.1 + (a + 1)), .ref (g.1 + (a + 3)), .ref (g.1 + (a + 5)), .ref (g.1 + (a + 6)), .ref (g.1 + (a + 7)), .null, .null, .null, .null, .null, .null])) hv
  refine zk_aload_n (pc := 47) h dX9_init_47 rfl rfl ?_
  refine zk_iconst (pc := 48) (v := (5 : Int32)) h dX9_init_48 (by decide) ?_
  refine zk_new_int (pc := 49) (N := 5) h (by decide) (by decide) (by decide) (by dsimp only [gRk]; omega) (by dsimp only [gRk]; omega) dX9_init_49 ?_
  have hI := zI_push (by omega) (gE0_arr (gd_X9_14 ha) hz8) hI
  have hv := zup_ne (n := (a + 8)) (y := .inl (g.2.2 0, 5, .inl (fun _ => 0))) (by omega) hv
  refine zk_putF (pc := 51) (a := a) (c := 9) (j := 14) (fs := [.int 0, .int 0, .int 0, .int 0, .int 0, .int 0, .int 0, .int 0, .int 0, .ref (g.1 + (a + 1)), .ref (g.1 + (a + 3)), .ref (g.1 + (a + 5)), .ref (g.1 + (a + 6)), .ref (g.1 + (a + 7)), .null, .null, .null, .null, .null, .null]) h (by omega) hv rfl (by decide) rfl rfl zu_X9 zv_507 tyX9_ok nmX9 rfl rfl rfl (Nat.le_of_ble_eq_true rfl) dX9_init_51 ?_
  have hI := zI_put (x := .inr (9, [.int 0, .int 0, .int 0, .int 0, .int 0, .int 0, .int 0, .int 0, .int 0, .ref (g.1 + (a + 1)), .ref (g.1 + (a + 3)), .ref (g.1 + (a + 5)), .ref (g.1 + (a + 6)), .ref (g.1 + (a + 7)), .ref (g.1 + (a + 8)), .null, .null, .null, .null, .null])) hI
  have hv := zup_put (y := .inr (9, [.int 0, .int 0, .int 0, .int 0, .int 0, .int 0, .int 0, .int 0, .int 0, .ref (g.1 + (a + 1)), .ref (g.1 + (a + 3)), .ref (g.1 + (a + 5)), .ref (g.1 + (a + 6)), .ref (g.1 + (a + 7)), .ref (g.1 + (a + 8)), .null, .null, .null, .null, .null])) hv
  refine zk_aload_n (pc := 54) h dX9_init_54 rfl rfl ?_
  refine zk_bipush (pc := 55) (v := (30 : Int32)) h dX9_init_55 (by decide) ?_
  refine zk_new_int (pc := 57) (N := 30) h (by decide) (by decide) (by decide) (by dsimp only [gRk]; omega) (by dsimp only [gRk]; omega) dX9_init_57 ?_
  have hI := zI_push (by omega) (gE0_arr (gd_X9_15 ha) hz9) hI
  have hv := zup_ne (n := (a + 9)) (y := .inl (g.2.2 0, 30, .inl (fun _ => 0))) (by omega) hv
  refine zk_putF (pc := 59) (a := a) (c := 9) (j := 15) (fs := [.int 0, .int 0, .int 0, .int 0, .int 0, .int 0, .int 0, .int 0, .int 0, .ref (g.1 + (a + 1)), .ref (g.1 + (a + 3)), .ref (g.1 + (a + 5)), .ref (g.1 + (a + 6)), .ref (g.1 + (a + 7)), .ref (g.1 + (a + 8)), .null, .null, .null, .null, .null]) h (by omega) hv rfl (by decide) rfl rfl zu_X9 zv_511 tyX9_ok nmX9 rfl rfl rfl (Nat.le_of_ble_eq_true rfl) dX9_init_59 ?_
  have hI := zI_put (x := .inr (9, [.int 0, .int 0, .int 0, .int 0, .int 0, .int 0, .int 0, .int 0, .int 0, .ref (g.1 + (a + 1)), .ref (g.1 + (a + 3)), .ref (g.1 + (a + 5)), .ref (g.1 + (a + 6)), .ref (g.1 + (a + 7)), .ref (g.1 + (a + 8)), .ref (g.1 + (a + 9)), .null, .null, .null, .null])) hI
  have hv := zup_put (y := .inr (9, [.int 0, .int 0, .int 0, .int 0, .int 0, .int 0, .int 0, .int 0, .int 0, .ref (g.1 + (a + 1)), .ref (g.1 + (a + 3)), .ref (g.1 + (a + 5)), .ref (g.1 + (a + 6)), .ref (g.1 + (a + 7)), .ref (g.1 + (a + 8)), .ref (g.1 + (a + 9)), .null, .null, .null, .null])) hv
  refine zk_aload_n (pc := 62) h dX9_init_62 rfl rfl ?_
  refine zk_bipush (pc := 63) (v := (30 : Int32)) h dX9_init_63 (by decide) ?_
  refine zk_new_int (pc := 65) (N := 30) h (by decide) (by decide) (by decide) (by dsimp only [gRk]; omega) (by dsimp only [gRk]; omega) dX9_init_65 ?_
  have hI := zI_push (by omega) (gE0_arr (gd_X9_16 ha) hz10) hI
  have hv := zup_ne (n := (a + 10)) (y := .inl (g.2.2 0, 30, .inl (fun _ => 0))) (by omega) hv
  refine zk_putF (pc := 67) (a := a) (c := 9) (j := 16) (fs := [.int 0, .int 0, .int 0, .int 0, .int 0, .int 0, .int 0, .int 0, .int 0, .ref (g.1 + (a + 1)), .ref (g.1 + (a + 3)), .ref (g.1 + (a + 5)), .ref (g.1 + (a + 6)), .ref (g.1 + (a + 7)), .ref (g.1 + (a + 8)), .ref (g.1 + (a + 9)), .null, .null, .null, .null]) h (by omega) hv rfl (by decide) rfl rfl zu_X9 zv_514 tyX9_ok nmX9 rfl rfl rfl (Nat.le_of_ble_eq_true rfl) dX9_init_67 ?_
  have hI := zI_put (x := .inr (9, [.int 0, .int 0, .int 0, .int 0, .int 0, .int 0, .int 0, .int 0, .int 0, .ref (g.1 + (a + 1)), .ref (g.1 + (a + 3)), .ref (g.1 + (a + 5)), .ref (g.1 + (a + 6)), .ref (g.1 + (a + 7)), .ref (g.1 + (a + 8)), .ref (g.1 + (a + 9)), .ref (g.1 + (a + 10)), .null, .null, .null])) hI
  have hv := zup_put (y := .inr (9, [.int 0, .int 0, .int 0, .int 0, .int 0, .int 0, .int 0, .int 0, .int 0, .ref (g.1 + (a + 1)), .ref (g.1 + (a + 3)), .ref (g.1 + (a + 5)), .ref (g.1 + (a + 6)), .ref (g.1 + (a + 7)), .ref (g.1 + (a + 8)), .ref (g.1 + (a + 9)), .ref (g.1 + (a + 10)), .null, .null, .null])) hv
  refine zk_aload_n (pc := 70) h dX9_init_70 rfl rfl ?_
  refine zk_bipush (pc := 71) (v := (30 : Int32)) h dX9_init_71 (by decide) ?_
  refine zk_new_int (pc := 73) (N := 30) h (by decide) (by decide) (by decide) (by dsimp only [gRk]; omega) (by dsimp only [gRk]; omega) dX9_init_73 ?_
  have hI := zI_push (by omega) (gE0_arr (gd_X9_17 ha) hz11) hI
  have hv := zup_ne (n := (a + 11)) (y := .inl (g.2.2 0, 30, .inl (fun _ => 0))) (by omega) hv
  refine zk_putF (pc := 75) (a := a) (c := 9) (j := 17) (fs := [.int 0, .int 0, .int 0, .int 0, .int 0, .int 0, .int 0, .int 0, .int 0, .ref (g.1 + (a + 1)), .ref (g.1 + (a + 3)), .ref (g.1 + (a + 5)), .ref (g.1 + (a + 6)), .ref (g.1 + (a + 7)), .ref (g.1 + (a + 8)), .ref (g.1 + (a + 9)), .ref (g.1 + (a + 10)), .null, .null, .null]) h (by omega) hv rfl (by decide) rfl rfl zu_X9 zv_517 tyX9_ok nmX9 rfl rfl rfl (Nat.le_of_ble_eq_true rfl) dX9_init_75 ?_
  have hI := zI_put (x := .inr (9, [.int 0, .int 0, .int 0, .int 0, .int 0, .int 0, .int 0, .int 0, .int 0, .ref (g.1 + (a + 1)), .ref (g.1 + (a + 3)), .ref (g.1 + (a + 5)), .ref (g.1 + (a + 6)), .ref (g.1 + (a + 7)), .ref (g.1 + (a + 8)), .ref (g.1 + (a + 9)), .ref (g.1 + (a + 10)), .ref (g.1 + (a + 11)), .null, .null])) hI
  have hv := zup_put (y := .inr (9, [.int 0, .int 0, .int 0, .int 0, .int 0, .int 0, .int 0, .int 0, .int 0, .ref (g.1 + (a + 1)), .ref (g.1 + (a + 3)), .ref (g.1 + (a + 5)), .ref (g.1 + (a + 6)), .ref (g.1 + (a + 7)), .ref (g.1 + (a + 8)), .ref (g.1 + (a + 9)), .ref (g.1 + (a + 10)), .ref (g.1 + (a + 11)), .null, .null])) hv
  refine zk_aload_n (pc := 78) h dX9_init_78 rfl rfl ?_
  refine zk_bipush (pc := 79) (v := (30 : Int32)) h dX9_init_79 (by decide) ?_
  refine zk_new_int (pc := 81) (N := 30) h (by decide) (by decide) (by decide) (by dsimp only [gRk]; omega) (by dsimp only [gRk]; omega) dX9_init_81 ?_
  have hI := zI_push (by omega) (gE0_arr (gd_X9_18 ha) hz12) hI
  have hv := zup_ne (n := (a + 12)) (y := .inl (g.2.2 0, 30, .inl (fun _ => 0))) (by omega) hv
  refine zk_putF (pc := 83) (a := a) (c := 9) (j := 18) (fs := [.int 0, .int 0, .int 0, .int 0, .int 0, .int 0, .int 0, .int 0, .int 0, .ref (g.1 + (a + 1)), .ref (g.1 + (a + 3)), .ref (g.1 + (a + 5)), .ref (g.1 + (a + 6)), .ref (g.1 + (a + 7)), .ref (g.1 + (a + 8)), .ref (g.1 + (a + 9)), .ref (g.1 + (a + 10)), .ref (g.1 + (a + 11)), .null, .null]) h (by omega) hv rfl (by decide) rfl rfl zu_X9 zv_520 tyX9_ok nmX9 rfl rfl rfl (Nat.le_of_ble_eq_true rfl) dX9_init_83 ?_
  have hI := zI_put (x := .inr (9, [.int 0, .int 0, .int 0, .int 0, .int 0, .int 0, .int 0, .int 0, .int 0, .ref (g.1 + (a + 1)), .ref (g.1 + (a + 3)), .ref (g.1 + (a + 5)), .ref (g.1 + (a + 6)), .ref (g.1 + (a + 7)), .ref (g.1 + (a + 8)), .ref (g.1 + (a + 9)), .ref (g.1 + (a + 10)), .ref (g.1 + (a + 11)), .ref (g.1 + (a + 12)), .null])) hI
  have hv := zup_put (y := .inr (9, [.int 0, .int 0, .int 0, .int 0, .int 0, .int 0, .int 0, .int 0, .int 0, .ref (g.1 + (a + 1)), .ref (g.1 + (a + 3)), .ref (g.1 + (a + 5)), .ref (g.1 + (a + 6)), .ref (g.1 + (a + 7)), .ref (g.1 + (a + 8)), .ref (g.1 + (a + 9)), .ref (g.1 + (a + 10)), .ref (g.1 + (a + 11)), .ref (g.1 + (a + 12)), .null])) hv
  refine zk_aload_n (pc := 86) h dX9_init_86 rfl rfl ?_
  refine zk_bipush (pc := 87) (v := (30 : Int32)) h dX9_init_87 (by decide) ?_
  refine zk_new_int (pc := 89) (N := 30) h (by decide) (by decide) (by decide) (by dsimp only [gRk]; omega) (by dsimp only [gRk]; omega) dX9_init_89 ?_
  have hI := zI_push (by omega) (gE0_arr (gd_X9_19 ha) hz13) hI
  have hv := zup_ne (n := (a + 13)) (y := .inl (g.2.2 0, 30, .inl (fun _ => 0))) (by omega) hv
  refine zk_putF (pc := 91) (a := a) (c := 9) (j := 19) (fs := [.int 0, .int 0, .int 0, .int 0, .int 0, .int 0, .int 0, .int 0, .int 0, .ref (g.1 + (a + 1)), .ref (g.1 + (a + 3)), .ref (g.1 + (a + 5)), .ref (g.1 + (a + 6)), .ref (g.1 + (a + 7)), .ref (g.1 + (a + 8)), .ref (g.1 + (a + 9)), .ref (g.1 + (a + 10)), .ref (g.1 + (a + 11)), .ref (g.1 + (a + 12)), .null]) h (by omega) hv rfl (by decide) rfl rfl zu_X9 zv_523 tyX9_ok nmX9 rfl rfl rfl (Nat.le_of_ble_eq_true rfl) dX9_init_91 ?_
  have hI := zI_put (x := .inr (9, [.int 0, .int 0, .int 0, .int 0, .int 0, .int 0, .int 0, .int 0, .int 0, .ref (g.1 + (a + 1)), .ref (g.1 + (a + 3)), .ref (g.1 + (a + 5)), .ref (g.1 + (a + 6)), .ref (g.1 + (a + 7)), .ref (g.1 + (a + 8)), .ref (g.1 + (a + 9)), .ref (g.1 + (a + 10)), .ref (g.1 + (a + 11)), .ref (g.1 + (a + 12)), .ref (g.1 + (a + 13))])) hI
  have hv := zup_put (y := .inr (9, [.int 0, .int 0, .int 0, .int 0, .int 0, .int 0, .int 0, .int 0, .int 0, .ref (g.1 + (a + 1)), .ref (g.1 + (a + 3)), .ref (g.1 + (a + 5)), .ref (g.1 + (a + 6)), .ref (g.1 + (a + 7)), .ref (g.1 + (a + 8)), .ref (g.1 + (a + 9)), .ref (g.1 + (a + 10)), .ref (g.1 + (a + 11)), .ref (g.1 + (a + 12)), .ref (g.1 + (a + 13))])) hv
  exact zk_ret (pc := 94) h rfl (by omega) rfl (zI_end hI (hv.trans (gE0_obj ha (by rw [hz0]; rfl))) (by omega)) dX9_init_94

set_option maxRecDepth 100000 in
set_option maxHeartbeats 4000000 in
theorem kX1_init {l : Launch} {g : gG} {a : Nat} {e : Nat → va_E} (ha : gk a = (0, 1)) (hv : e a = .inr (1, [.int 0, .null, .null, .null, .null, .null, .null, .null, .null, .null, .int 0, .null, .null, .null])) : gMk l g yX1_init cX1_init 1 1 12 12 184 [.ref (g.1 + a)] (a + 1) e (a + 13) (gFill g e a (a + 13)) := by
  obtain ⟨hb1, hb2⟩ := gb_X1 ha
  have hz0 := gM0_z (a := a) (by omega) (by omega) (by omega)
  have hz1 := gM0_z (a := (a + 1)) (by omega) (by omega) (by omega)
  have hz2 := gM0_z (a := (a + 2)) (by omega) (by omega) (by omega)
  have hz3 := gM0_z (a := (a + 3)) (by omega) (by omega) (by omega)
  have hz4 := gM0_z (a := (a + 4)) (by omega) (by omega) (by omega)
  have hz5 := gM0_z (a := (a + 5)) (by omega) (by omega) (by omega)
  have hz6 := gM0_z (a := (a + 6)) (by omega) (by omega) (by omega)
  have hz7 := gM0_z (a := (a + 7)) (by omega) (by omega) (by omega)
  have hz8 := gM0_z (a := (a + 8)) (by omega) (by omega) (by omega)
  have hz9 := gM0_z (a := (a + 9)) (by omega) (by omega) (by omega)
  have hz10 := gM0_z (a := (a + 10)) (by omega) (by omega) (by omega)
  have hz11 := gM0_z (a := (a + 11)) (by omega) (by omega) (by omega)
  have hz12 := gM0_z (a := (a + 12)) (by omega) (by omega) (by omega)
  refine gMk_of (gIni [.ref (g.1 + a)] ++ List.replicate 0 none) (by decide) rfl (gIni_ok _ _) (Nat.le_of_ble_eq_true rfl) (fun K h => ?_)
  show K 0 [some (.ref (g.1 + a))] [] (a + 1) e 0
  have hI := zI_0 g a e
  refine zk_aload_n (pc := 0) h dX1_init_0 rfl rfl ?_
  refine zk_obj (pc := 1) h zv_304 zv_206 zv_207 (by decide) (Nat.le_of_ble_eq_true rfl) dX1_init_1 ?_
  refine zk_aload_n (pc := 4) h dX1_init_4 rfl rfl ?_
  refine zk_iconst (pc := 5) (v := (3 : Int32)) h dX1_init_5 (by decide) ?_
  refine zk_new_int (pc := 6) (N := 3) h (by decide) (by decide) (by decide) (by dsimp only [gRk]; omega) (by dsimp only [gRk]; omega) dX1_init_6 ?_
  have hI := zI_push (by omega) (gE0_arr (gd_X1_1 ha) hz1) hI
  have hv := zup_ne (n := (a + 1)) (y := .inl (g.2.2 0, 3, .inl (fun _ => 0))) (by omega) hv
  refine zk_putF (pc := 8) (a := a) (c := 1) (j := 1) (fs := [.int 0, .null, .null, .null, .null, .null, .null, .null, .null, .null, .int 0, .null, .null, .null]) h (by omega) hv rfl (by decide) rfl rfl zu_X1 zv_306 tyX1_ok nmX1 rfl rfl rfl (Nat.le_of_ble_eq_true rfl) dX1_init_8 ?_
  have hI := zI_put (x := .inr (1, [.int 0, .ref (g.1 + (a + 1)), .null, .null, .null, .null, .null, .null, .null, .null, .int 0, .null, .null, .null])) hI
  have hv := zup_put (y := .inr (1, [.int 0, .ref (g.1 + (a + 1)), .null, .null, .null, .null, .null, .null, .null, .null, .int 0, .null, .null, .null])) hv
  refine zk_aload_n (pc := 11) h dX1_init_11 rfl rfl ?_
  refine zk_bipush (pc := 12) (v := (24 : Int32)) h dX1_init_12 (by decide) ?_
  refine zk_new_int (pc := 14) (N := 24) h (by decide) (by decide) (by decide) (by dsimp only [gRk]; omega) (by dsimp only [gRk]; omega) dX1_init_14 ?_
  have hI := zI_push (by omega) (gE0_arr (gd_X1_2 ha) hz2) hI
  have hv := zup_ne (n := (a + 2)) (y := .inl (g.2.2 0, 24, .inl (fun _ => 0))) (by omega) hv
  refine zk_putF (pc := 16) (a := a) (c := 1) (j := 2) (fs := [.int 0, .ref (g.1 + (a + 1)), .null, .null, .null, .null, .null, .null, .null, .null, .int 0, .null, .null, .null]) h (by omega) hv rfl (by decide) rfl rfl zu_X1 zv_310 tyX1_ok nmX1 rfl rfl rfl (Nat.le_of_ble_eq_true rfl) dX1_init_16 ?_
  have hI := zI_put (x := .inr (1, [.int 0, .ref (g.1 + (a + 1)), .ref (g.1 + (a + 2)), .null, .null, .null, .null, .null, .null, .null, .int 0, .null, .null, .null])) hI
  have hv := zup_put (y := .inr (1, [.int 0, .ref (g.1 + (a + 1)), .ref (g.1 + (a + 2)), .null, .null, .null, .null, .null, .null, .null, .int 0, .null, .null, .null])) hv
  refine zk_aload_n (pc := 19) h dX1_init_19 rfl rfl ?_
  refine zk_iconst (pc := 20) (v := (5 : Int32)) h dX1_init_20 (by decide) ?_
  refine zk_new_int (pc := 21) (N := 5) h (by decide) (by decide) (by decide) (by dsimp only [gRk]; omega) (by dsimp only [gRk]; omega) dX1_init_21 ?_
  have hI := zI_push (by omega) (gE0_arr (gd_X1_3 ha) hz3) hI
  have hv := zup_ne (n := (a + 3)) (y := .inl (g.2.2 0, 5, .inl (fun _ => 0))) (by omega) hv
  refine zk_putF (pc := 23) (a := a) (c := 1) (j := 3) (fs := [.int 0, .ref (g.1 + (a + 1)), .ref (g.1 + (a + 2)), .null, .null, .null, .null, .null, .null, .null, .int 0, .null, .null, .null]) h (by omega) hv rfl (by decide) rfl rfl zu_X1 zv_313 tyX1_ok nmX1 rfl rfl rfl (Nat.le_of_ble_eq_true rfl) dX1_init_23 ?_
  have hI := zI_put (x := .inr (1, [.int 0, .ref (g.1 + (a + 1)), .ref (g.1 + (a + 2)), .ref (g.1 + (a + 3)), .null, .null, .null, .null, .null, .null, .int 0, .null, .null, .null])) hI
  have hv := zup_put (y := .inr (1, [.int 0, .ref (g.1 + (a + 1)), .ref (g.1 + (a + 2)), .ref (g.1 + (a + 3)), .null, .null, .null, .null, .null, .null, .int 0, .null, .null, .null])) hv
  refine zk_aload_n (pc := 26) h dX1_init_26 rfl rfl ?_
  refine zk_iconst (pc := 27) (v := (5 : Int32)) h dX1_init_27 (by decide) ?_
  refine zk_new_int (pc := 28) (N := 5) h (by decide) (by decide) (by decide) (by dsimp only [gRk]; omega) (by dsimp only [gRk]; omega) dX1_init_28 ?_
  have hI := zI_push (by omega) (gE0_arr (gd_X1_4 ha) hz4) hI
  have hv := zup_ne (n := (a + 4)) (y := .inl (g.2.2 0, 5, .inl (fun _ => 0))) (by omega) hv
  refine zk_putF (pc := 30) (a := a) (c := 1) (j := 4) (fs := [.int 0, .ref (g.1 + (a + 1)), .ref (g.1 + (a + 2)), .ref (g.1 + (a + 3)), .null, .null, .null, .null, .null, .null, .int 0, .null, .null, .null]) h (by omega) hv rfl (by decide) rfl rfl zu_X1 zv_317 tyX1_ok nmX1 rfl rfl rfl (Nat.le_of_ble_eq_true rfl) dX1_init_30 ?_
  have hI := zI_put (x := .inr (1, [.int 0, .ref (g.1 + (a + 1)), .ref (g.1 + (a + 2)), .ref (g.1 + (a + 3)), .ref (g.1 + (a + 4)), .null, .null, .null, .null, .null, .int 0, .null, .null, .null])) hI
  have hv := zup_put (y := .inr (1, [.int 0, .ref (g.1 + (a + 1)), .ref (g.1 + (a + 2)), .ref (g.1 + (a + 3)), .ref (g.1 + (a + 4)), .null, .null, .null, .null, .null, .int 0, .null, .null, .null])) hv
  refine zk_aload_n (pc := 33) h dX1_init_33 rfl rfl ?_
  refine zk_iconst (pc := 34) (v := (5 : Int32)) h dX1_init_34 (by decide) ?_
  refine zk_new_int (pc := 35) (N := 5) h (by decide) (by decide) (by decide) (by dsimp only [gRk]; omega) (by dsimp only [gRk]; omega) dX1_init_35 ?_
  have hI := zI_push (by omega) (gE0_arr (gd_X1_5 ha) hz5) hI
  have hv := zup_ne (n := (a + 5)) (y := .inl (g.2.2 0, 5, .inl (fun _ => 0))) (by omega) hv
  refine zk_putF (pc := 37) (a := a) (c := 1) (j := 5) (fs := [.int 0, .ref (g.1 + (a + 1)), .ref (g.1 + (a + 2)), .ref (g.1 + (a + 3)), .ref (g.1 + (a + 4)), .null, .null, .null, .null, .null, .int 0, .null, .null, .null]) h (by omega) hv rfl (by decide) rfl rfl zu_X1 zv_321 tyX1_ok nmX1 rfl rfl rfl (Nat.le_of_ble_eq_true rfl) dX1_init_37 ?_
  have hI := zI_put (x := .inr (1, [.int 0, .ref (g.1 + (a + 1)), .ref (g.1 + (a + 2)), .ref (g.1 + (a + 3)), .ref (g.1 + (a + 4)), .ref (g.1 + (a + 5)), .null, .null, .null, .null, .int 0, .null, .null, .null])) hI
  have hv := zup_put (y := .inr (1, [.int 0, .ref (g.1 + (a + 1)), .ref (g.1 + (a + 2)), .ref (g.1 + (a + 3)), .ref (g.1 + (a + 4)), .ref (g.1 + (a + 5)), .null, .null, .null, .null, .int 0, .null, .null, .null])) hv
  refine zk_aload_n (pc := 40) h dX1_init_40 rfl rfl ?_
  refine zk_iconst (pc := 41) (v := (5 : Int32)) h dX1_init_41 (by decide) ?_
  refine zk_new_int (pc := 42) (N := 5) h (by decide) (by decide) (by decide) (by dsimp only [gRk]; omega) (by dsimp only [gRk]; omega) dX1_init_42 ?_
  have hI := zI_push (by omega) (gE0_arr (gd_X1_6 ha) hz6) hI
  have hv := zup_ne (n := (a + 6)) (y := .inl (g.2.2 0, 5, .inl (fun _ => 0))) (by omega) hv
  refine zk_putF (pc := 44) (a := a) (c := 1) (j := 6) (fs := [.int 0, .ref (g.1 + (a + 1)), .ref (g.1 + (a + 2)), .ref (g.1 + (a + 3)), .ref (g.1 + (a + 4)), .ref (g.1 + (a + 5)), .null, .null, .null, .null, .int 0, .null, .null, .null]) h (by omega) hv rfl (by decide) rfl rfl zu_X1 zv_325 tyX1_ok nmX1 rfl rfl rfl (Nat.le_of_ble_eq_true rfl) dX1_init_44 ?_
  have hI := zI_put (x := .inr (1, [.int 0, .ref (g.1 + (a + 1)), .ref (g.1 + (a + 2)), .ref (g.1 + (a + 3)), .ref (g.1 + (a + 4)), .ref (g.1 + (a + 5)), .ref (g.1 + (a + 6)), .null, .null, .null, .int 0, .null, .null, .null])) hI
  have hv := zup_put (y := .inr (1, [.int 0, .ref (g.1 + (a + 1)), .ref (g.1 + (a + 2)), .ref (g.1 + (a + 3)), .ref (g.1 + (a + 4)), .ref (g.1 + (a + 5)), .ref (g.1 + (a + 6)), .null, .null, .null, .int 0, .null, .null, .null])) hv
  refine zk_aload_n (pc := 47) h dX1_init_47 rfl rfl ?_
  refine zk_iconst (pc := 48) (v := (5 : Int32)) h dX1_init_48 (by decide) ?_
  refine zk_new_int (pc := 49) (N := 5) h (by decide) (by decide) (by decide) (by dsimp only [gRk]; omega) (by dsimp only [gRk]; omega) dX1_init_49 ?_
  have hI := zI_push (by omega) (gE0_arr (gd_X1_7 ha) hz7) hI
  have hv := zup_ne (n := (a + 7)) (y := .inl (g.2.2 0, 5, .inl (fun _ => 0))) (by omega) hv
  refine zk_putF (pc := 51) (a := a) (c := 1) (j := 7) (fs := [.int 0, .ref (g.1 + (a + 1)), .ref (g.1 + (a + 2)), .ref (g.1 + (a + 3)), .ref (g.1 + (a + 4)), .ref (g.1 + (a + 5)), .ref (g.1 + (a + 6)), .null, .null, .null, .int 0, .null, .null, .null]) h (by omega) hv rfl (by decide) rfl rfl zu_X1 zv_329 tyX1_ok nmX1 rfl rfl rfl (Nat.le_of_ble_eq_true rfl) dX1_init_51 ?_
  have hI := zI_put (x := .inr (1, [.int 0, .ref (g.1 + (a + 1)), .ref (g.1 + (a + 2)), .ref (g.1 + (a + 3)), .ref (g.1 + (a + 4)), .ref (g.1 + (a + 5)), .ref (g.1 + (a + 6)), .ref (g.1 + (a + 7)), .null, .null, .int 0, .null, .null, .null])) hI
  have hv := zup_put (y := .inr (1, [.int 0, .ref (g.1 + (a + 1)), .ref (g.1 + (a + 2)), .ref (g.1 + (a + 3)), .ref (g.1 + (a + 4)), .ref (g.1 + (a + 5)), .ref (g.1 + (a + 6)), .ref (g.1 + (a + 7)), .null, .null, .int 0, .null, .null, .null])) hv
  refine zk_aload_n (pc := 54) h dX1_init_54 rfl rfl ?_
  refine zk_bipush (pc := 55) (v := (30 : Int32)) h dX1_init_55 (by decide) ?_
  refine zk_new_int (pc := 57) (N := 30) h (by decide) (by decide) (by decide) (by dsimp only [gRk]; omega) (by dsimp only [gRk]; omega) dX1_init_57 ?_
  have hI := zI_push (by omega) (gE0_arr (gd_X1_8 ha) hz8) hI
  have hv := zup_ne (n := (a + 8)) (y := .inl (g.2.2 0, 30, .inl (fun _ => 0))) (by omega) hv
  refine zk_putF (pc := 59) (a := a) (c := 1) (j := 8) (fs := [.int 0, .ref (g.1 + (a + 1)), .ref (g.1 + (a + 2)), .ref (g.1 + (a + 3)), .ref (g.1 + (a + 4)), .ref (g.1 + (a + 5)), .ref (g.1 + (a + 6)), .ref (g.1 + (a + 7)), .null, .null, .int 0, .null, .null, .null]) h (by omega) hv rfl (by decide) rfl rfl zu_X1 zv_334 tyX1_ok nmX1 rfl rfl rfl (Nat.le_of_ble_eq_true rfl) dX1_init_59 ?_
  have hI := zI_put (x := .inr (1, [.int 0, .ref (g.1 + (a + 1)), .ref (g.1 + (a + 2)), .ref (g.1 + (a + 3)), .ref (g.1 + (a + 4)), .ref (g.1 + (a + 5)), .ref (g.1 + (a + 6)), .ref (g.1 + (a + 7)), .ref (g.1 + (a + 8)), .null, .int 0, .null, .null, .null])) hI
  have hv := zup_put (y := .inr (1, [.int 0, .ref (g.1 + (a + 1)), .ref (g.1 + (a + 2)), .ref (g.1 + (a + 3)), .ref (g.1 + (a + 4)), .ref (g.1 + (a + 5)), .ref (g.1 + (a + 6)), .ref (g.1 + (a + 7)), .ref (g.1 + (a + 8)), .null, .int 0, .null, .null, .null])) hv
  refine zk_aload_n (pc := 62) h dX1_init_62 rfl rfl ?_
  refine zk_bipush (pc := 63) (v := (30 : Int32)) h dX1_init_63 (by decide) ?_
  refine zk_new_int (pc := 65) (N := 30) h (by decide) (by decide) (by decide) (by dsimp only [gRk]; omega) (by dsimp only [gRk]; omega) dX1_init_65 ?_
  have hI := zI_push (by omega) (gE0_arr (gd_X1_9 ha) hz9) hI
  have hv := zup_ne (n := (a + 9)) (y := .inl (g.2.2 0, 30, .inl (fun _ => 0))) (by omega) hv
  refine zk_putF (pc := 67) (a := a) (c := 1) (j := 9) (fs := [.int 0, .ref (g.1 + (a + 1)), .ref (g.1 + (a + 2)), .ref (g.1 + (a + 3)), .ref (g.1 + (a + 4)), .ref (g.1 + (a + 5)), .ref (g.1 + (a + 6)), .ref (g.1 + (a + 7)), .ref (g.1 + (a + 8)), .null, .int 0, .null, .null, .null]) h (by omega) hv rfl (by decide) rfl rfl zu_X1 zv_337 tyX1_ok nmX1 rfl rfl rfl (Nat.le_of_ble_eq_true rfl) dX1_init_67 ?_
  have hI := zI_put (x := .inr (1, [.int 0, .ref (g.1 + (a + 1)), .ref (g.1 + (a + 2)), .ref (g.1 + (a + 3)), .ref (g.1 + (a + 4)), .ref (g.1 + (a + 5)), .ref (g.1 + (a + 6)), .ref (g.1 + (a + 7)), .ref (g.1 + (a + 8)), .ref (g.1 + (a + 9)), .int 0, .null, .null, .null])) hI
  have hv := zup_put (y := .inr (1, [.int 0, .ref (g.1 + (a + 1)), .ref (g.1 + (a + 2)), .ref (g.1 + (a + 3)), .ref (g.1 + (a + 4)), .ref (g.1 + (a + 5)), .ref (g.1 + (a + 6)), .ref (g.1 + (a + 7)), .ref (g.1 + (a + 8)), .ref (g.1 + (a + 9)), .int 0, .null, .null, .null])) hv
  refine zk_aload_n (pc := 70) h dX1_init_70 rfl rfl ?_
  refine zk_bipush (pc := 71) (v := (24 : Int32)) h dX1_init_71 (by decide) ?_
  refine zk_new_int (pc := 73) (N := 24) h (by decide) (by decide) (by decide) (by dsimp only [gRk]; omega) (by dsimp only [gRk]; omega) dX1_init_73 ?_
  have hI := zI_push (by omega) (gE0_arr (gd_X1_11 ha) hz10) hI
  have hv := zup_ne (n := (a + 10)) (y := .inl (g.2.2 0, 24, .inl (fun _ => 0))) (by omega) hv
  refine zk_putF (pc := 75) (a := a) (c := 1) (j := 11) (fs := [.int 0, .ref (g.1 + (a + 1)), .ref (g.1 + (a + 2)), .ref (g.1 + (a + 3)), .ref (g.1 + (a + 4)), .ref (g.1 + (a + 5)), .ref (g.1 + (a + 6)), .ref (g.1 + (a + 7)), .ref (g.1 + (a + 8)), .ref (g.1 + (a + 9)), .int 0, .null, .null, .null]) h (by omega) hv rfl (by decide) rfl rfl zu_X1 zv_344 tyX1_ok nmX1 rfl rfl rfl (Nat.le_of_ble_eq_true rfl) dX1_init_75 ?_
  have hI := zI_put (x := .inr (1, [.int 0, .ref (g.1 + (a + 1)), .ref (g.1 + (a + 2)), .ref (g.1 + (a + 3)), .ref (g.1 + (a + 4)), .ref (g.1 + (a + 5)), .ref (g.1 + (a + 6)), .ref (g.1 + (a + 7)), .ref (g.1 + (a + 8)), .ref (g.1 + (a + 9)), .int 0, .ref (g.1 + (a + 10)), .null, .null])) hI
  have hv := zup_put (y := .inr (1, [.int 0, .ref (g.1 + (a + 1)), .ref (g.1 + (a + 2)), .ref (g.1 + (a + 3)), .ref (g.1 + (a + 4)), .ref (g.1 + (a + 5)), .ref (g.1 + (a + 6)), .ref (g.1 + (a + 7)), .ref (g.1 + (a + 8)), .ref (g.1 + (a + 9)), .int 0, .ref (g.1 + (a + 10)), .null, .null])) hv
  refine zk_aload_n (pc := 78) h dX1_init_78 rfl rfl ?_
  refine zk_bipush (pc := 79) (v := (24 : Int32)) h dX1_init_79 (by decide) ?_
  refine zk_new_int (pc := 81) (N := 24) h (by decide) (by decide) (by decide) (by dsimp only [gRk]; omega) (by dsimp only [gRk]; omega) dX1_init_81 ?_
  have hI := zI_push (by omega) (gE0_arr (gd_X1_12 ha) hz11) hI
  have hv := zup_ne (n := (a + 11)) (y := .inl (g.2.2 0, 24, .inl (fun _ => 0))) (by omega) hv
  refine zk_putF (pc := 83) (a := a) (c := 1) (j := 12) (fs := [.int 0, .ref (g.1 + (a + 1)), .ref (g.1 + (a + 2)), .ref (g.1 + (a + 3)), .ref (g.1 + (a + 4)), .ref (g.1 + (a + 5)), .ref (g.1 + (a + 6)), .ref (g.1 + (a + 7)), .ref (g.1 + (a + 8)), .ref (g.1 + (a + 9)), .int 0, .ref (g.1 + (a + 10)), .null, .null]) h (by omega) hv rfl (by decide) rfl rfl zu_X1 zv_347 tyX1_ok nmX1 rfl rfl rfl (Nat.le_of_ble_eq_true rfl) dX1_init_83 ?_
  have hI := zI_put (x := .inr (1, [.int 0, .ref (g.1 + (a + 1)), .ref (g.1 + (a + 2)), .ref (g.1 + (a + 3)), .ref (g.1 + (a + 4)), .ref (g.1 + (a + 5)), .ref (g.1 + (a + 6)), .ref (g.1 + (a + 7)), .ref (g.1 + (a + 8)), .ref (g.1 + (a + 9)), .int 0, .ref (g.1 + (a + 10)), .ref (g.1 + (a + 11)), .null])) hI
  have hv := zup_put (y := .inr (1, [.int 0, .ref (g.1 + (a + 1)), .ref (g.1 + (a + 2)), .ref (g.1 + (a + 3)), .ref (g.1 + (a + 4)), .ref (g.1 + (a + 5)), .ref (g.1 + (a + 6)), .ref (g.1 + (a + 7)), .ref (g.1 + (a + 8)), .ref (g.1 + (a + 9)), .int 0, .ref (g.1 + (a + 10)), .ref (g.1 + (a + 11)), .null])) hv
  refine zk_aload_n (pc := 86) h dX1_init_86 rfl rfl ?_
  refine zk_bipush (pc := 87) (v := (24 : Int32)) h dX1_init_87 (by decide) ?_
  refine zk_new_int (pc := 89) (N := 24) h (by decide) (by decide) (by decide) (by dsimp only [gRk]; omega) (by dsimp only [gRk]; omega) dX1_init_89 ?_
  have hI := zI_push (by omega) (gE0_arr (gd_X1_13 ha) hz12) hI
  have hv := zup_ne (n := (a + 12)) (y := .inl (g.2.2 0, 24, .inl (fun _ => 0))) (by omega) hv
  refine zk_putF (pc := 91) (a := a) (c := 1) (j := 13) (fs := [.int 0, .ref (g.1 + (a + 1)), .ref (g.1 + (a + 2)), .ref (g.1 + (a + 3)), .ref (g.1 + (a + 4)), .ref (g.1 + (a + 5)), .ref (g.1 + (a + 6)), .ref (g.1 + (a + 7)), .ref (g.1 + (a + 8)), .ref (g.1 + (a + 9)), .int 0, .ref (g.1 + (a + 10)), .ref (g.1 + (a + 11)), .null]) h (by omega) hv rfl (by decide) rfl rfl zu_X1 zv_350 tyX1_ok nmX1 rfl rfl rfl (Nat.le_of_ble_eq_true rfl) dX1_init_91 ?_
  have hI := zI_put (x := .inr (1, [.int 0, .ref (g.1 + (a + 1)), .ref (g.1 + (a + 2)), .ref (g.1 + (a + 3)), .ref (g.1 + (a + 4)), .ref (g.1 + (a + 5)), .ref (g.1 + (a + 6)), .ref (g.1 + (a + 7)), .ref (g.1 + (a + 8)), .ref (g.1 + (a + 9)), .int 0, .ref (g.1 + (a + 10)), .ref (g.1 + (a + 11)), .ref (g.1 + (a + 12))])) hI
  have hv := zup_put (y := .inr (1, [.int 0, .ref (g.1 + (a + 1)), .ref (g.1 + (a + 2)), .ref (g.1 + (a + 3)), .ref (g.1 + (a + 4)), .ref (g.1 + (a + 5)), .ref (g.1 + (a + 6)), .ref (g.1 + (a + 7)), .ref (g.1 + (a + 8)), .ref (g.1 + (a + 9)), .int 0, .ref (g.1 + (a + 10)), .ref (g.1 + (a + 11)), .ref (g.1 + (a + 12))])) hv
  exact zk_ret (pc := 94) h rfl (by omega) rfl (zI_end hI (hv.trans (gE0_obj ha (by rw [hz0]; rfl))) (by omega)) dX1_init_94

set_option maxRecDepth 100000 in
set_option maxHeartbeats 4000000 in
theorem kX10_init {l : Launch} {g : gG} {a : Nat} {e : Nat → va_E} (ha : gk (a + 14) = (0, 10)) (hv : e (a + 14) = .inr (10, [.null, .null, .int 0, .int 0, .int 0])) : gMk l g yX10_init cX10_init 3 1 12 0 0 [.ref (g.1 + (a + 14)), .ref (g.1 + 4), .ref (g.1 + a)] (a + 15) e (a + 15) (gFill g e (a + 14) (a + 15)) := by
  obtain ⟨hb1, hb2⟩ := gb_X10 ha
  have hz0 := gM0_z (a := a + 14) (by omega) (by omega) (by omega)
  refine gMk_of (gIni [.ref (g.1 + (a + 14)), .ref (g.1 + 4), .ref (g.1 + a)] ++ List.replicate 0 none) (by decide) rfl (gIni_ok _ _) (Nat.le_of_ble_eq_true rfl) (fun K h => ?_)
  show K 0 [some (.ref (g.1 + (a + 14))), some (.ref (g.1 + 4)), some (.ref (g.1 + a))] [] (a + 15) e 0
  have hI := zI_0 g (a + 14) e
  refine zk_aload_n (pc := 0) h dX10_init_0 rfl rfl ?_
  refine zk_obj (pc := 1) h zv_572 zv_206 zv_207 (by decide) (Nat.le_of_ble_eq_true rfl) dX10_init_1 ?_
  refine zk_aload_n (pc := 4) h dX10_init_4 rfl rfl ?_
  refine zk_aload_n (pc := 5) h dX10_init_5 rfl rfl ?_
  refine zk_putF (pc := 6) (a := (a + 14)) (c := 10) (j := 0) (fs := [.null, .null, .int 0, .int 0, .int 0]) h (by omega) hv rfl (by decide) rfl rfl zu_X10 zv_573 tyX10_ok nmX10 rfl rfl rfl (Nat.le_of_ble_eq_true rfl) dX10_init_6 ?_
  have hI := zI_put (x := .inr (10, [.ref (g.1 + 4), .null, .int 0, .int 0, .int 0])) hI
  have hv := zup_put (y := .inr (10, [.ref (g.1 + 4), .null, .int 0, .int 0, .int 0])) hv
  refine zk_aload_n (pc := 9) h dX10_init_9 rfl rfl ?_
  refine zk_aload_n (pc := 10) h dX10_init_10 rfl rfl ?_
  refine zk_putF (pc := 11) (a := (a + 14)) (c := 10) (j := 1) (fs := [.ref (g.1 + 4), .null, .int 0, .int 0, .int 0]) h (by omega) hv rfl (by decide) rfl rfl zu_X10 zv_574 tyX10_ok nmX10 rfl rfl rfl (Nat.le_of_ble_eq_true rfl) dX10_init_11 ?_
  have hI := zI_put (x := .inr (10, [.ref (g.1 + 4), .ref (g.1 + a), .int 0, .int 0, .int 0])) hI
  have hv := zup_put (y := .inr (10, [.ref (g.1 + 4), .ref (g.1 + a), .int 0, .int 0, .int 0])) hv
  exact zk_ret (pc := 14) h rfl (by omega) rfl (zI_end hI (hv.trans (gE0_obj ha (by rw [hz0]; rfl))) (by omega)) dX10_init_14

set_option maxRecDepth 100000 in
set_option maxHeartbeats 4000000 in
theorem kX8_init {l : Launch} {g : gG} {e : Nat → va_E} (hv : e 264 = .inr (8, [.null, .null, .null, .null])) : gMk l g yX8_init cX8_init 3 1 12 2 14 [.ref (g.1 + 264), .ref (g.1 + 4), .ref (g.1 + 34)] 265 e 267 (gFill g e 264 267) := by
  refine gMk_of (gIni [.ref (g.1 + 264), .ref (g.1 + 4), .ref (g.1 + 34)] ++ List.replicate 0 none) (by decide) rfl (gIni_ok _ _) (Nat.le_of_ble_eq_true rfl) (fun K h => ?_)
  show K 0 [some (.ref (g.1 + 264)), some (.ref (g.1 + 4)), some (.ref (g.1 + 34))] [] 265 e 0
  have hI := zI_0 g 264 e
  refine zk_aload_n (pc := 0) h dX8_init_0 rfl rfl ?_
  refine zk_obj (pc := 1) h zv_641 zv_206 zv_207 (by decide) (Nat.le_of_ble_eq_true rfl) dX8_init_1 ?_
  refine zk_aload_n (pc := 4) h dX8_init_4 rfl rfl ?_
  refine zk_bipush (pc := 5) (v := (8 : Int32)) h dX8_init_5 (by decide) ?_
  refine zk_new_int (pc := 7) (N := 8) h (by decide) (by decide) (by decide) (by dsimp only [gRk]; omega) (by dsimp only [gRk]; omega) dX8_init_7 ?_
  have hI := zI_push (by omega) (gE0_arr gkc_265 rfl) hI
  have hv := zup_ne (n := 265) (y := .inl (g.2.2 0, 8, .inl (fun _ => 0))) (by omega) hv
  refine zk_putF (pc := 9) (a := 264) (c := 8) (j := 2) (fs := [.null, .null, .null, .null]) h (by omega) hv rfl (by decide) rfl rfl zu_X8 zv_644 tyX8_ok nmX8 rfl rfl rfl (Nat.le_of_ble_eq_true rfl) dX8_init_9 ?_
  have hI := zI_put (x := .inr (8, [.null, .null, .ref (g.1 + 265), .null])) hI
  have hv := zup_put (y := .inr (8, [.null, .null, .ref (g.1 + 265), .null])) hv
  refine zk_aload_n (pc := 12) h dX8_init_12 rfl rfl ?_
  refine zk_bipush (pc := 13) (v := (6 : Int32)) h dX8_init_13 (by decide) ?_
  refine zk_new_int (pc := 15) (N := 6) h (by decide) (by decide) (by decide) (by dsimp only [gRk]; omega) (by dsimp only [gRk]; omega) dX8_init_15 ?_
  have hI := zI_push (by omega) (gE0_arr gkc_266 rfl) hI
  have hv := zup_ne (n := 266) (y := .inl (g.2.2 0, 6, .inl (fun _ => 0))) (by omega) hv
  refine zk_putF (pc := 17) (a := 264) (c := 8) (j := 3) (fs := [.null, .null, .ref (g.1 + 265), .null]) h (by omega) hv rfl (by decide) rfl rfl zu_X8 zv_645 tyX8_ok nmX8 rfl rfl rfl (Nat.le_of_ble_eq_true rfl) dX8_init_17 ?_
  have hI := zI_put (x := .inr (8, [.null, .null, .ref (g.1 + 265), .ref (g.1 + 266)])) hI
  have hv := zup_put (y := .inr (8, [.null, .null, .ref (g.1 + 265), .ref (g.1 + 266)])) hv
  refine zk_aload_n (pc := 20) h dX8_init_20 rfl rfl ?_
  refine zk_aload_n (pc := 21) h dX8_init_21 rfl rfl ?_
  refine zk_putF (pc := 22) (a := 264) (c := 8) (j := 0) (fs := [.null, .null, .ref (g.1 + 265), .ref (g.1 + 266)]) h (by omega) hv rfl (by decide) rfl rfl zu_X8 zv_642 tyX8_ok nmX8 rfl rfl rfl (Nat.le_of_ble_eq_true rfl) dX8_init_22 ?_
  have hI := zI_put (x := .inr (8, [.ref (g.1 + 4), .null, .ref (g.1 + 265), .ref (g.1 + 266)])) hI
  have hv := zup_put (y := .inr (8, [.ref (g.1 + 4), .null, .ref (g.1 + 265), .ref (g.1 + 266)])) hv
  refine zk_aload_n (pc := 25) h dX8_init_25 rfl rfl ?_
  refine zk_aload_n (pc := 26) h dX8_init_26 rfl rfl ?_
  refine zk_putF (pc := 27) (a := 264) (c := 8) (j := 1) (fs := [.ref (g.1 + 4), .null, .ref (g.1 + 265), .ref (g.1 + 266)]) h (by omega) hv rfl (by decide) rfl rfl zu_X8 zv_643 tyX8_ok nmX8 rfl rfl rfl (Nat.le_of_ble_eq_true rfl) dX8_init_27 ?_
  have hI := zI_put (x := .inr (8, [.ref (g.1 + 4), .ref (g.1 + 34), .ref (g.1 + 265), .ref (g.1 + 266)])) hI
  have hv := zup_put (y := .inr (8, [.ref (g.1 + 4), .ref (g.1 + 34), .ref (g.1 + 265), .ref (g.1 + 266)])) hv
  exact zk_ret (pc := 30) h rfl (by omega) rfl (zI_end hI (hv.trans (gE0_obj gkc_264 rfl)) (by omega)) dX8_init_30

set_option maxRecDepth 100000 in
set_option maxHeartbeats 4000000 in
theorem kX2_init {l : Launch} {g : gG} {e : Nat → va_E} (hv : e 17 = .inr (2, [.null, .null])) : gMk l g yX2_init cX2_init 2 2 32 13 198 [.ref (g.1 + 17), .ref (g.1 + 1)] 18 e 31 (gFill g e 17 31) := by
  refine gMk_of (gIni [.ref (g.1 + 17), .ref (g.1 + 1)] ++ List.replicate 0 none) (by decide) rfl (gIni_ok _ _) (Nat.le_of_ble_eq_true rfl) (fun K h => ?_)
  show K 0 [some (.ref (g.1 + 17)), some (.ref (g.1 + 1))] [] 18 e 0
  have hI := zI_0 g 17 e
  refine zk_aload_n (pc := 0) h dX2_init_0 rfl rfl ?_
  refine zk_obj (pc := 1) h zv_387 zv_206 zv_207 (by decide) (Nat.le_of_ble_eq_true rfl) dX2_init_1 ?_
  refine zk_aload_n (pc := 4) h dX2_init_4 rfl rfl ?_
  refine zk_new (pc := 5) (c := 1) (fs := [.int 0, .null, .null, .null, .null, .null, .null, .null, .null, .null, .int 0, .null, .null, .null]) h rfl zu_X1 tyX1_ok zv_388 zv_300 zv_186 (by decide) (by dsimp only [gRk]; omega) (by dsimp only [gRk]; omega) dX2_init_5 ?_
  refine zk_dup (pc := 8) h dX2_init_8 rfl ?_
  refine zk_call (pc := 9) (mc1 := 12) (ms1 := 184) (n1 := 31) (host := "GateGroup") h zv_389 zv_302 zc_X1_init rfl ⟨by decide, by decide⟩ (kX1_init gkc_18 (zup_eq rfl)) rfl (Nat.le_of_ble_eq_true rfl) (by dsimp only [gRk]; omega) (by dsimp only [gRk]; omega) (by omega) dX2_init_9 rfl ?_
  have hI := zI_call (x := .inr (1, [.int 0, .null, .null, .null, .null, .null, .null, .null, .null, .null, .int 0, .null, .null, .null])) (n1 := 31) (by omega) (by omega) hI
  have hv := zfil (g := g) (b := 18) (c := 31) (by omega) (zup_ne (n := 18) (y := .inr (1, [.int 0, .null, .null, .null, .null, .null, .null, .null, .null, .null, .int 0, .null, .null, .null])) (by omega) hv)
  refine zk_putF (pc := 12) (a := 17) (c := 2) (j := 1) (fs := [.null, .null]) h (by omega) hv rfl (by decide) rfl rfl zu_X2 zv_391 tyX2_ok nmX2 rfl rfl rfl (Nat.le_of_ble_eq_true rfl) dX2_init_12 ?_
  have hI := zI_put (x := .inr (2, [.null, .ref (g.1 + 18)])) hI
  have hv := zup_put (y := .inr (2, [.null, .ref (g.1 + 18)])) hv
  refine zk_aload_n (pc := 15) h dX2_init_15 rfl rfl ?_
  refine zk_aload_n (pc := 16) h dX2_init_16 rfl rfl ?_
  refine zk_putF (pc := 17) (a := 17) (c := 2) (j := 0) (fs := [.null, .ref (g.1 + 18)]) h (by omega) hv rfl (by decide) rfl rfl zu_X2 zv_390 tyX2_ok nmX2 rfl rfl rfl (Nat.le_of_ble_eq_true rfl) dX2_init_17 ?_
  have hI := zI_put (x := .inr (2, [.ref (g.1 + 1), .ref (g.1 + 18)])) hI
  have hv := zup_put (y := .inr (2, [.ref (g.1 + 1), .ref (g.1 + 18)])) hv
  exact zk_ret (pc := 20) h rfl (by omega) rfl (zI_end hI (hv.trans (gE0_obj gkc_17 rfl)) (by omega)) dX2_init_20

set_option maxRecDepth 100000 in
set_option maxHeartbeats 4000000 in
theorem kX6_init {l : Launch} {g : gG} {e : Nat → va_E} (hv : e 31 = .inr (6, [.null, .null, .null])) : gMk l g yX6_init cX6_init 3 2 32 2 102 [.ref (g.1 + 31), .ref (g.1 + 1), .ref (g.1 + 4)] 32 e 34 (gFill g e 31 34) := by
  refine gMk_of (gIni [.ref (g.1 + 31), .ref (g.1 + 1), .ref (g.1 + 4)] ++ List.replicate 0 none) (by decide) rfl (gIni_ok _ _) (Nat.le_of_ble_eq_true rfl) (fun K h => ?_)
  show K 0 [some (.ref (g.1 + 31)), some (.ref (g.1 + 1)), some (.ref (g.1 + 4))] [] 32 e 0
  have hI := zI_0 g 31 e
  refine zk_aload_n (pc := 0) h dX6_init_0 rfl rfl ?_
  refine zk_obj (pc := 1) h zv_403 zv_206 zv_207 (by decide) (Nat.le_of_ble_eq_true rfl) dX6_init_1 ?_
  refine zk_aload_n (pc := 4) h dX6_init_4 rfl rfl ?_
  refine zk_new (pc := 5) (c := 5) (fs := [.int 0, .null]) h rfl zu_X5 tyX5_ok zv_404 zv_405 zv_189 (by decide) (by dsimp only [gRk]; omega) (by dsimp only [gRk]; omega) dX6_init_5 ?_
  refine zk_dup (pc := 8) h dX6_init_8 rfl ?_
  refine zk_call (pc := 9) (mc1 := 1) (ms1 := 100) (n1 := 34) (host := "GateGroup") h zv_406 zv_407 zc_X5_init rfl ⟨by decide, by decide⟩ (kX5_init gkc_32 (zup_eq rfl)) rfl (Nat.le_of_ble_eq_true rfl) (by dsimp only [gRk]; omega) (by dsimp only [gRk]; omega) (by omega) dX6_init_9 rfl ?_
  have hI := zI_call (x := .inr (5, [.int 0, .null])) (n1 := 34) (by omega) (by omega) hI
  have hv := zfil (g := g) (b := 32) (c := 34) (by omega) (zup_ne (n := 32) (y := .inr (5, [.int 0, .null])) (by omega) hv)
  refine zk_putF (pc := 12) (a := 31) (c := 6) (j := 2) (fs := [.null, .null, .null]) h (by omega) hv rfl (by decide) rfl rfl zu_X6 zv_425 tyX6_ok nmX6 rfl rfl rfl (Nat.le_of_ble_eq_true rfl) dX6_init_12 ?_
  have hI := zI_put (x := .inr (6, [.null, .null, .ref (g.1 + 32)])) hI
  have hv := zup_put (y := .inr (6, [.null, .null, .ref (g.1 + 32)])) hv
  refine zk_aload_n (pc := 15) h dX6_init_15 rfl rfl ?_
  refine zk_aload_n (pc := 16) h dX6_init_16 rfl rfl ?_
  refine zk_putF (pc := 17) (a := 31) (c := 6) (j := 0) (fs := [.null, .null, .ref (g.1 + 32)]) h (by omega) hv rfl (by decide) rfl rfl zu_X6 zv_423 tyX6_ok nmX6 rfl rfl rfl (Nat.le_of_ble_eq_true rfl) dX6_init_17 ?_
  have hI := zI_put (x := .inr (6, [.ref (g.1 + 1), .null, .ref (g.1 + 32)])) hI
  have hv := zup_put (y := .inr (6, [.ref (g.1 + 1), .null, .ref (g.1 + 32)])) hv
  refine zk_aload_n (pc := 20) h dX6_init_20 rfl rfl ?_
  refine zk_aload_n (pc := 21) h dX6_init_21 rfl rfl ?_
  refine zk_putF (pc := 22) (a := 31) (c := 6) (j := 1) (fs := [.ref (g.1 + 1), .null, .ref (g.1 + 32)]) h (by omega) hv rfl (by decide) rfl rfl zu_X6 zv_424 tyX6_ok nmX6 rfl rfl rfl (Nat.le_of_ble_eq_true rfl) dX6_init_22 ?_
  have hI := zI_put (x := .inr (6, [.ref (g.1 + 1), .ref (g.1 + 4), .ref (g.1 + 32)])) hI
  have hv := zup_put (y := .inr (6, [.ref (g.1 + 1), .ref (g.1 + 4), .ref (g.1 + 32)])) hv
  exact zk_ret (pc := 25) h rfl (by omega) rfl (zI_end hI (hv.trans (gE0_obj gkc_31 rfl)) (by omega)) dX6_init_25

set_option maxRecDepth 100000 in
set_option maxHeartbeats 4000000 in
theorem kX3_init {l : Launch} {g : gG} {e : Nat → va_E} (hv : e 248 = .inr (3, [.null, .null, .null])) : gMk l g yX3_init cX3_init 3 3 52 15 540 [.ref (g.1 + 248), .ref (g.1 + 4), .ref (g.1 + 34)] 249 e 264 (gFill g e 248 264) := by
  refine gMk_of (gIni [.ref (g.1 + 248), .ref (g.1 + 4), .ref (g.1 + 34)] ++ List.replicate 0 none) (by decide) rfl (gIni_ok _ _) (Nat.le_of_ble_eq_true rfl) (fun K h => ?_)
  show K 0 [some (.ref (g.1 + 248)), some (.ref (g.1 + 4)), some (.ref (g.1 + 34))] [] 249 e 0
  have hI := zI_0 g 248 e
  refine zk_aload_n (pc := 0) h dX3_init_0 rfl rfl ?_
  refine zk_obj (pc := 1) h zv_621 zv_206 zv_207 (by decide) (Nat.le_of_ble_eq_true rfl) dX3_init_1 ?_
  refine zk_aload_n (pc := 4) h dX3_init_4 rfl rfl ?_
  refine zk_new (pc := 5) (c := 9) (fs := [.int 0, .int 0, .int 0, .int 0, .int 0, .int 0, .int 0, .int 0, .int 0, .null, .null, .null, .null, .null, .null, .null, .null, .null, .null, .null]) h rfl zu_X9 tyX9_ok zv_622 zv_435 zv_190 (by decide) (by dsimp only [gRk]; omega) (by dsimp only [gRk]; omega) dX3_init_5 ?_
  refine zk_dup (pc := 8) h dX3_init_8 rfl ?_
  refine zk_call (pc := 9) (mc1 := 13) (ms1 := 515) (n1 := 263) (host := "GateGroup") h zv_623 zv_437 zc_X9_init rfl ⟨by decide, by decide⟩ (kX9_init gkc_249 (zup_eq rfl)) rfl (Nat.le_of_ble_eq_true rfl) (by dsimp only [gRk]; omega) (by dsimp only [gRk]; omega) (by omega) dX3_init_9 rfl ?_
  have hI := zI_call (x := .inr (9, [.int 0, .int 0, .int 0, .int 0, .int 0, .int 0, .int 0, .int 0, .int 0, .null, .null, .null, .null, .null, .null, .null, .null, .null, .null, .null])) (n1 := 263) (by omega) (by omega) hI
  have hv := zfil (g := g) (b := 249) (c := 263) (by omega) (zup_ne (n := 249) (y := .inr (9, [.int 0, .int 0, .int 0, .int 0, .int 0, .int 0, .int 0, .int 0, .int 0, .null, .null, .null, .null, .null, .null, .null, .null, .null, .null, .null])) (by omega) hv)
  refine zk_putF (pc := 12) (a := 248) (c := 3) (j := 1) (fs := [.null, .null, .null]) h (by omega) hv rfl (by decide) rfl rfl zu_X3 zv_627 tyX3_ok nmX3 rfl rfl rfl (Nat.le_of_ble_eq_true rfl) dX3_init_12 ?_
  have hI := zI_put (x := .inr (3, [.null, .ref (g.1 + 249), .null])) hI
  have hv := zup_put (y := .inr (3, [.null, .ref (g.1 + 249), .null])) hv
  refine zk_aload_n (pc := 15) h dX3_init_15 rfl rfl ?_
  refine zk_aload_n (pc := 16) h dX3_init_16 rfl rfl ?_
  refine zk_putF (pc := 17) (a := 248) (c := 3) (j := 0) (fs := [.null, .ref (g.1 + 249), .null]) h (by omega) hv rfl (by decide) rfl rfl zu_X3 zv_626 tyX3_ok nmX3 rfl rfl rfl (Nat.le_of_ble_eq_true rfl) dX3_init_17 ?_
  have hI := zI_put (x := .inr (3, [.ref (g.1 + 34), .ref (g.1 + 249), .null])) hI
  have hv := zup_put (y := .inr (3, [.ref (g.1 + 34), .ref (g.1 + 249), .null])) hv
  refine zk_aload_n (pc := 20) h dX3_init_20 rfl rfl ?_
  refine zk_new (pc := 21) (c := 10) (fs := [.null, .null, .int 0, .int 0, .int 0]) h rfl zu_X10 tyX10_ok zv_624 zv_568 zv_192 (by decide) (by dsimp only [gRk]; omega) (by dsimp only [gRk]; omega) dX3_init_21 ?_
  refine zk_dup (pc := 24) h dX3_init_24 rfl ?_
  refine zk_aload_n (pc := 25) h dX3_init_25 rfl rfl ?_
  refine zk_aload_n (pc := 26) h dX3_init_26 rfl rfl ?_
  refine zk_get (pc := 27) (a := 248) (c := 3) (j := 1) (v := .ref (g.1 + 249)) (fs := [.ref (g.1 + 34), .ref (g.1 + 249), .null]) h (by omega) hv rfl (by decide) rfl zu_X3 zv_627 rfl dX3_init_27 ?_
  refine zk_call (pc := 30) (mc1 := 0) (ms1 := 0) (n1 := 264) (host := "GateGroup") h zv_625 zv_570 zc_X10_init rfl ⟨by decide, by decide⟩ (kX10_init (a := 249) gkc_263 (zup_eq rfl)) rfl (Nat.le_of_ble_eq_true rfl) (by dsimp only [gRk]; omega) (by dsimp only [gRk]; omega) (by omega) dX3_init_30 rfl ?_
  have hI := zI_call (x := .inr (10, [.null, .null, .int 0, .int 0, .int 0])) (n1 := 264) (by omega) (by omega) hI
  have hv := zfil (g := g) (b := 263) (c := 264) (by omega) (zup_ne (n := 263) (y := .inr (10, [.null, .null, .int 0, .int 0, .int 0])) (by omega) hv)
  refine zk_putF (pc := 33) (a := 248) (c := 3) (j := 2) (fs := [.ref (g.1 + 34), .ref (g.1 + 249), .null]) h (by omega) hv rfl (by decide) rfl rfl zu_X3 zv_628 tyX3_ok nmX3 rfl rfl rfl (Nat.le_of_ble_eq_true rfl) dX3_init_33 ?_
  have hI := zI_put (x := .inr (3, [.ref (g.1 + 34), .ref (g.1 + 249), .ref (g.1 + 263)])) hI
  have hv := zup_put (y := .inr (3, [.ref (g.1 + 34), .ref (g.1 + 249), .ref (g.1 + 263)])) hv
  exact zk_ret (pc := 36) h rfl (by omega) rfl (zI_end hI (hv.trans (gE0_obj gkc_248 rfl)) (by omega)) dX3_init_36

set_option maxRecDepth 100000 in
set_option maxHeartbeats 4000000 in
theorem kX12_init {l : Launch} {g : gG} {e : Nat → va_E} (hv : e 267 = .inr (12, [.int 0, .null, .int 0, .int 0, .int 0, .int 0, .int 0, .int 0, .int 0, .int 0, .int 0, .int 0, .int 0, .null, .null, .int 0, .int 0, .null, .null, .null, .int 0, .null, .int 0, .null, .null, .null, .int 0])) : gMk l g yX12_init cX12_init 1 1 12 10 9880 [.ref (g.1 + 267)] 268 e 278 (gFill g e 267 278) := by
  refine gMk_of (gIni [.ref (g.1 + 267)] ++ List.replicate 0 none) (by decide) rfl (gIni_ok _ _) (Nat.le_of_ble_eq_true rfl) (fun K h => ?_)
  show K 0 [some (.ref (g.1 + 267))] [] 268 e 0
  have hI := zI_0 g 267 e
  refine zk_aload_n (pc := 0) h dX12_init_0 rfl rfl ?_
  refine zk_obj (pc := 1) h zv_1361 zv_206 zv_207 (by decide) (Nat.le_of_ble_eq_true rfl) dX12_init_1 ?_
  refine zk_aload_n (pc := 4) h dX12_init_4 rfl rfl ?_
  refine zk_sipush (pc := 5) (v := (1500 : Int32)) h dX12_init_5 (by decide) ?_
  refine zk_new_byte (pc := 8) (N := 1500) h (by decide) (by decide) (by decide) (by dsimp only [gRk]; omega) (by dsimp only [gRk]; omega) dX12_init_8 ?_
  have hI := zI_push (by omega) (rfl) hI
  have hv := zup_ne (n := 268) (y := .inl (g.2.2 1, 1500, .inl (fun _ => 0))) (by omega) hv
  refine zk_putF (pc := 10) (a := 267) (c := 12) (j := 1) (fs := [.int 0, .null, .int 0, .int 0, .int 0, .int 0, .int 0, .int 0, .int 0, .int 0, .int 0, .int 0, .int 0, .null, .null, .int 0, .int 0, .null, .null, .null, .int 0, .null, .int 0, .null, .null, .null, .int 0]) h (by omega) hv rfl (by decide) rfl rfl zu_X12 zv_1363 tyX12_ok nmX12 rfl rfl rfl (Nat.le_of_ble_eq_true rfl) dX12_init_10 ?_
  have hI := zI_put (x := .inr (12, [.int 0, .ref (g.1 + 268), .int 0, .int 0, .int 0, .int 0, .int 0, .int 0, .int 0, .int 0, .int 0, .int 0, .int 0, .null, .null, .int 0, .int 0, .null, .null, .null, .int 0, .null, .int 0, .null, .null, .null, .int 0])) hI
  have hv := zup_put (y := .inr (12, [.int 0, .ref (g.1 + 268), .int 0, .int 0, .int 0, .int 0, .int 0, .int 0, .int 0, .int 0, .int 0, .int 0, .int 0, .null, .null, .int 0, .int 0, .null, .null, .null, .int 0, .null, .int 0, .null, .null, .null, .int 0])) hv
  refine zk_aload_n (pc := 13) h dX12_init_13 rfl rfl ?_
  refine zk_iconst (pc := 14) (v := (-1 : Int32)) h dX12_init_14 (by decide) ?_
  refine zk_put (pc := 15) (a := 267) (c := 12) (j := 9) (fs := [.int 0, .ref (g.1 + 268), .int 0, .int 0, .int 0, .int 0, .int 0, .int 0, .int 0, .int 0, .int 0, .int 0, .int 0, .null, .null, .int 0, .int 0, .null, .null, .null, .int 0, .null, .int 0, .null, .null, .null, .int 0]) h (by omega) hv rfl (by decide) rfl zu_X12 zv_1371 tyX12_ok nmX12 rfl rfl rfl (Nat.le_of_ble_eq_true rfl) dX12_init_15 ?_
  have hI := zI_put (x := .inr (12, [.int 0, .ref (g.1 + 268), .int 0, .int 0, .int 0, .int 0, .int 0, .int 0, .int 0, .int (-1), .int 0, .int 0, .int 0, .null, .null, .int 0, .int 0, .null, .null, .null, .int 0, .null, .int 0, .null, .null, .null, .int 0])) hI
  have hv := zup_put (y := .inr (12, [.int 0, .ref (g.1 + 268), .int 0, .int 0, .int 0, .int 0, .int 0, .int 0, .int 0, .int (-1), .int 0, .int 0, .int 0, .null, .null, .int 0, .int 0, .null, .null, .null, .int 0, .null, .int 0, .null, .null, .null, .int 0])) hv
  refine zk_aload_n (pc := 18) h dX12_init_18 rfl rfl ?_
  refine zk_sipush (pc := 19) (v := (209 : Int32)) h dX12_init_19 (by decide) ?_
  refine zk_new_int (pc := 22) (N := 209) h (by decide) (by decide) (by decide) (by dsimp only [gRk]; omega) (by dsimp only [gRk]; omega) dX12_init_22 ?_
  have hI := zI_push (by omega) (gE0_arr gkc_269 rfl) hI
  have hv := zup_ne (n := 269) (y := .inl (g.2.2 0, 209, .inl (fun _ => 0))) (by omega) hv
  refine zk_putF (pc := 24) (a := 267) (c := 12) (j := 13) (fs := [.int 0, .ref (g.1 + 268), .int 0, .int 0, .int 0, .int 0, .int 0, .int 0, .int 0, .int (-1), .int 0, .int 0, .int 0, .null, .null, .int 0, .int 0, .null, .null, .null, .int 0, .null, .int 0, .null, .null, .null, .int 0]) h (by omega) hv rfl (by decide) rfl rfl zu_X12 zv_1375 tyX12_ok nmX12 rfl rfl rfl (Nat.le_of_ble_eq_true rfl) dX12_init_24 ?_
  have hI := zI_put (x := .inr (12, [.int 0, .ref (g.1 + 268), .int 0, .int 0, .int 0, .int 0, .int 0, .int 0, .int 0, .int (-1), .int 0, .int 0, .int 0, .ref (g.1 + 269), .null, .int 0, .int 0, .null, .null, .null, .int 0, .null, .int 0, .null, .null, .null, .int 0])) hI
  have hv := zup_put (y := .inr (12, [.int 0, .ref (g.1 + 268), .int 0, .int 0, .int 0, .int 0, .int 0, .int 0, .int 0, .int (-1), .int 0, .int 0, .int 0, .ref (g.1 + 269), .null, .int 0, .int 0, .null, .null, .null, .int 0, .null, .int 0, .null, .null, .null, .int 0])) hv
  refine zk_aload_n (pc := 27) h dX12_init_27 rfl rfl ?_
  refine zk_sipush (pc := 28) (v := (209 : Int32)) h dX12_init_28 (by decide) ?_
  refine zk_new_int (pc := 31) (N := 209) h (by decide) (by decide) (by decide) (by dsimp only [gRk]; omega) (by dsimp only [gRk]; omega) dX12_init_31 ?_
  have hI := zI_push (by omega) (gE0_arr gkc_270 rfl) hI
  have hv := zup_ne (n := 270) (y := .inl (g.2.2 0, 209, .inl (fun _ => 0))) (by omega) hv
  refine zk_putF (pc := 33) (a := 267) (c := 12) (j := 14) (fs := [.int 0, .ref (g.1 + 268), .int 0, .int 0, .int 0, .int 0, .int 0, .int 0, .int 0, .int (-1), .int 0, .int 0, .int 0, .ref (g.1 + 269), .null, .int 0, .int 0, .null, .null, .null, .int 0, .null, .int 0, .null, .null, .null, .int 0]) h (by omega) hv rfl (by decide) rfl rfl zu_X12 zv_1376 tyX12_ok nmX12 rfl rfl rfl (Nat.le_of_ble_eq_true rfl) dX12_init_33 ?_
  have hI := zI_put (x := .inr (12, [.int 0, .ref (g.1 + 268), .int 0, .int 0, .int 0, .int 0, .int 0, .int 0, .int 0, .int (-1), .int 0, .int 0, .int 0, .ref (g.1 + 269), .ref (g.1 + 270), .int 0, .int 0, .null, .null, .null, .int 0, .null, .int 0, .null, .null, .null, .int 0])) hI
  have hv := zup_put (y := .inr (12, [.int 0, .ref (g.1 + 268), .int 0, .int 0, .int 0, .int 0, .int 0, .int 0, .int 0, .int (-1), .int 0, .int 0, .int 0, .ref (g.1 + 269), .ref (g.1 + 270), .int 0, .int 0, .null, .null, .null, .int 0, .null, .int 0, .null, .null, .null, .int 0])) hv
  refine zk_aload_n (pc := 36) h dX12_init_36 rfl rfl ?_
  refine zk_bipush (pc := 37) (v := (100 : Int32)) h dX12_init_37 (by decide) ?_
  refine zk_new_int (pc := 39) (N := 100) h (by decide) (by decide) (by decide) (by dsimp only [gRk]; omega) (by dsimp only [gRk]; omega) dX12_init_39 ?_
  have hI := zI_push (by omega) (gE0_arr gkc_271 rfl) hI
  have hv := zup_ne (n := 271) (y := .inl (g.2.2 0, 100, .inl (fun _ => 0))) (by omega) hv
  refine zk_putF (pc := 41) (a := 267) (c := 12) (j := 17) (fs := [.int 0, .ref (g.1 + 268), .int 0, .int 0, .int 0, .int 0, .int 0, .int 0, .int 0, .int (-1), .int 0, .int 0, .int 0, .ref (g.1 + 269), .ref (g.1 + 270), .int 0, .int 0, .null, .null, .null, .int 0, .null, .int 0, .null, .null, .null, .int 0]) h (by omega) hv rfl (by decide) rfl rfl zu_X12 zv_1379 tyX12_ok nmX12 rfl rfl rfl (Nat.le_of_ble_eq_true rfl) dX12_init_41 ?_
  have hI := zI_put (x := .inr (12, [.int 0, .ref (g.1 + 268), .int 0, .int 0, .int 0, .int 0, .int 0, .int 0, .int 0, .int (-1), .int 0, .int 0, .int 0, .ref (g.1 + 269), .ref (g.1 + 270), .int 0, .int 0, .ref (g.1 + 271), .null, .null, .int 0, .null, .int 0, .null, .null, .null, .int 0])) hI
  have hv := zup_put (y := .inr (12, [.int 0, .ref (g.1 + 268), .int 0, .int 0, .int 0, .int 0, .int 0, .int 0, .int 0, .int (-1), .int 0, .int 0, .int 0, .ref (g.1 + 269), .ref (g.1 + 270), .int 0, .int 0, .ref (g.1 + 271), .null, .null, .int 0, .null, .int 0, .null, .null, .null, .int 0])) hv
  refine zk_aload_n (pc := 44) h dX12_init_44 rfl rfl ?_
  refine zk_sipush (pc := 45) (v := (490 : Int32)) h dX12_init_45 (by decide) ?_
  refine zk_new_int (pc := 48) (N := 490) h (by decide) (by decide) (by decide) (by dsimp only [gRk]; omega) (by dsimp only [gRk]; omega) dX12_init_48 ?_
  have hI := zI_push (by omega) (gE0_arr gkc_272 rfl) hI
  have hv := zup_ne (n := 272) (y := .inl (g.2.2 0, 490, .inl (fun _ => 0))) (by omega) hv
  refine zk_putF (pc := 50) (a := 267) (c := 12) (j := 18) (fs := [.int 0, .ref (g.1 + 268), .int 0, .int 0, .int 0, .int 0, .int 0, .int 0, .int 0, .int (-1), .int 0, .int 0, .int 0, .ref (g.1 + 269), .ref (g.1 + 270), .int 0, .int 0, .ref (g.1 + 271), .null, .null, .int 0, .null, .int 0, .null, .null, .null, .int 0]) h (by omega) hv rfl (by decide) rfl rfl zu_X12 zv_1380 tyX12_ok nmX12 rfl rfl rfl (Nat.le_of_ble_eq_true rfl) dX12_init_50 ?_
  have hI := zI_put (x := .inr (12, [.int 0, .ref (g.1 + 268), .int 0, .int 0, .int 0, .int 0, .int 0, .int 0, .int 0, .int (-1), .int 0, .int 0, .int 0, .ref (g.1 + 269), .ref (g.1 + 270), .int 0, .int 0, .ref (g.1 + 271), .ref (g.1 + 272), .null, .int 0, .null, .int 0, .null, .null, .null, .int 0])) hI
  have hv := zup_put (y := .inr (12, [.int 0, .ref (g.1 + 268), .int 0, .int 0, .int 0, .int 0, .int 0, .int 0, .int 0, .int (-1), .int 0, .int 0, .int 0, .ref (g.1 + 269), .ref (g.1 + 270), .int 0, .int 0, .ref (g.1 + 271), .ref (g.1 + 272), .null, .int 0, .null, .int 0, .null, .null, .null, .int 0])) hv
  refine zk_aload_n (pc := 53) h dX12_init_53 rfl rfl ?_
  refine zk_sipush (pc := 54) (v := (7350 : Int32)) h dX12_init_54 (by decide) ?_
  refine zk_new_int (pc := 57) (N := 7350) h (by decide) (by decide) (by decide) (by dsimp only [gRk]; omega) (by dsimp only [gRk]; omega) dX12_init_57 ?_
  have hI := zI_push (by omega) (gE0_arr gkc_273 rfl) hI
  have hv := zup_ne (n := 273) (y := .inl (g.2.2 0, 7350, .inl (fun _ => 0))) (by omega) hv
  refine zk_putF (pc := 59) (a := 267) (c := 12) (j := 19) (fs := [.int 0, .ref (g.1 + 268), .int 0, .int 0, .int 0, .int 0, .int 0, .int 0, .int 0, .int (-1), .int 0, .int 0, .int 0, .ref (g.1 + 269), .ref (g.1 + 270), .int 0, .int 0, .ref (g.1 + 271), .ref (g.1 + 272), .null, .int 0, .null, .int 0, .null, .null, .null, .int 0]) h (by omega) hv rfl (by decide) rfl rfl zu_X12 zv_1381 tyX12_ok nmX12 rfl rfl rfl (Nat.le_of_ble_eq_true rfl) dX12_init_59 ?_
  have hI := zI_put (x := .inr (12, [.int 0, .ref (g.1 + 268), .int 0, .int 0, .int 0, .int 0, .int 0, .int 0, .int 0, .int (-1), .int 0, .int 0, .int 0, .ref (g.1 + 269), .ref (g.1 + 270), .int 0, .int 0, .ref (g.1 + 271), .ref (g.1 + 272), .ref (g.1 + 273), .int 0, .null, .int 0, .null, .null, .null, .int 0])) hI
  have hv := zup_put (y := .inr (12, [.int 0, .ref (g.1 + 268), .int 0, .int 0, .int 0, .int 0, .int 0, .int 0, .int 0, .int (-1), .int 0, .int 0, .int 0, .ref (g.1 + 269), .ref (g.1 + 270), .int 0, .int 0, .ref (g.1 + 271), .ref (g.1 + 272), .ref (g.1 + 273), .int 0, .null, .int 0, .null, .null, .null, .int 0])) hv
  refine zk_aload_n (pc := 62) h dX12_init_62 rfl rfl ?_
  refine zk_iconst (pc := 63) (v := (2 : Int32)) h dX12_init_63 (by decide) ?_
  refine zk_new_boolean (pc := 64) (N := 2) h (by decide) (by decide) (by decide) (by dsimp only [gRk]; omega) (by dsimp only [gRk]; omega) dX12_init_64 ?_
  have hI := zI_push (by omega) (rfl) hI
  have hv := zup_ne (n := 274) (y := .inl (g.2.2 2, 2, .inl (fun _ => 0))) (by omega) hv
  refine zk_putF (pc := 66) (a := 267) (c := 12) (j := 21) (fs := [.int 0, .ref (g.1 + 268), .int 0, .int 0, .int 0, .int 0, .int 0, .int 0, .int 0, .int (-1), .int 0, .int 0, .int 0, .ref (g.1 + 269), .ref (g.1 + 270), .int 0, .int 0, .ref (g.1 + 271), .ref (g.1 + 272), .ref (g.1 + 273), .int 0, .null, .int 0, .null, .null, .null, .int 0]) h (by omega) hv rfl (by decide) rfl rfl zu_X12 zv_1383 tyX12_ok nmX12 rfl rfl rfl (Nat.le_of_ble_eq_true rfl) dX12_init_66 ?_
  have hI := zI_put (x := .inr (12, [.int 0, .ref (g.1 + 268), .int 0, .int 0, .int 0, .int 0, .int 0, .int 0, .int 0, .int (-1), .int 0, .int 0, .int 0, .ref (g.1 + 269), .ref (g.1 + 270), .int 0, .int 0, .ref (g.1 + 271), .ref (g.1 + 272), .ref (g.1 + 273), .int 0, .ref (g.1 + 274), .int 0, .null, .null, .null, .int 0])) hI
  have hv := zup_put (y := .inr (12, [.int 0, .ref (g.1 + 268), .int 0, .int 0, .int 0, .int 0, .int 0, .int 0, .int 0, .int (-1), .int 0, .int 0, .int 0, .ref (g.1 + 269), .ref (g.1 + 270), .int 0, .int 0, .ref (g.1 + 271), .ref (g.1 + 272), .ref (g.1 + 273), .int 0, .ref (g.1 + 274), .int 0, .null, .null, .null, .int 0])) hv
  refine zk_aload_n (pc := 69) h dX12_init_69 rfl rfl ?_
  refine zk_bipush (pc := 70) (v := (6 : Int32)) h dX12_init_70 (by decide) ?_
  refine zk_new_int (pc := 72) (N := 6) h (by decide) (by decide) (by decide) (by dsimp only [gRk]; omega) (by dsimp only [gRk]; omega) dX12_init_72 ?_
  have hI := zI_push (by omega) (gE0_arr gkc_275 rfl) hI
  have hv := zup_ne (n := 275) (y := .inl (g.2.2 0, 6, .inl (fun _ => 0))) (by omega) hv
  refine zk_putF (pc := 74) (a := 267) (c := 12) (j := 23) (fs := [.int 0, .ref (g.1 + 268), .int 0, .int 0, .int 0, .int 0, .int 0, .int 0, .int 0, .int (-1), .int 0, .int 0, .int 0, .ref (g.1 + 269), .ref (g.1 + 270), .int 0, .int 0, .ref (g.1 + 271), .ref (g.1 + 272), .ref (g.1 + 273), .int 0, .ref (g.1 + 274), .int 0, .null, .null, .null, .int 0]) h (by omega) hv rfl (by decide) rfl rfl zu_X12 zv_1385 tyX12_ok nmX12 rfl rfl rfl (Nat.le_of_ble_eq_true rfl) dX12_init_74 ?_
  have hI := zI_put (x := .inr (12, [.int 0, .ref (g.1 + 268), .int 0, .int 0, .int 0, .int 0, .int 0, .int 0, .int 0, .int (-1), .int 0, .int 0, .int 0, .ref (g.1 + 269), .ref (g.1 + 270), .int 0, .int 0, .ref (g.1 + 271), .ref (g.1 + 272), .ref (g.1 + 273), .int 0, .ref (g.1 + 274), .int 0, .ref (g.1 + 275), .null, .null, .int 0])) hI
  have hv := zup_put (y := .inr (12, [.int 0, .ref (g.1 + 268), .int 0, .int 0, .int 0, .int 0, .int 0, .int 0, .int 0, .int (-1), .int 0, .int 0, .int 0, .ref (g.1 + 269), .ref (g.1 + 270), .int 0, .int 0, .ref (g.1 + 271), .ref (g.1 + 272), .ref (g.1 + 273), .int 0, .ref (g.1 + 274), .int 0, .ref (g.1 + 275), .null, .null, .int 0])) hv
  refine zk_aload_n (pc := 77) h dX12_init_77 rfl rfl ?_
  refine zk_bipush (pc := 78) (v := (8 : Int32)) h dX12_init_78 (by decide) ?_
  refine zk_new_int (pc := 80) (N := 8) h (by decide) (by decide) (by decide) (by dsimp only [gRk]; omega) (by dsimp only [gRk]; omega) dX12_init_80 ?_
  have hI := zI_push (by omega) (gE0_arr gkc_276 rfl) hI
  have hv := zup_ne (n := 276) (y := .inl (g.2.2 0, 8, .inl (fun _ => 0))) (by omega) hv
  refine zk_putF (pc := 82) (a := 267) (c := 12) (j := 24) (fs := [.int 0, .ref (g.1 + 268), .int 0, .int 0, .int 0, .int 0, .int 0, .int 0, .int 0, .int (-1), .int 0, .int 0, .int 0, .ref (g.1 + 269), .ref (g.1 + 270), .int 0, .int 0, .ref (g.1 + 271), .ref (g.1 + 272), .ref (g.1 + 273), .int 0, .ref (g.1 + 274), .int 0, .ref (g.1 + 275), .null, .null, .int 0]) h (by omega) hv rfl (by decide) rfl rfl zu_X12 zv_1386 tyX12_ok nmX12 rfl rfl rfl (Nat.le_of_ble_eq_true rfl) dX12_init_82 ?_
  have hI := zI_put (x := .inr (12, [.int 0, .ref (g.1 + 268), .int 0, .int 0, .int 0, .int 0, .int 0, .int 0, .int 0, .int (-1), .int 0, .int 0, .int 0, .ref (g.1 + 269), .ref (g.1 + 270), .int 0, .int 0, .ref (g.1 + 271), .ref (g.1 + 272), .ref (g.1 + 273), .int 0, .ref (g.1 + 274), .int 0, .ref (g.1 + 275), .ref (g.1 + 276), .null, .int 0])) hI
  have hv := zup_put (y := .inr (12, [.int 0, .ref (g.1 + 268), .int 0, .int 0, .int 0, .int 0, .int 0, .int 0, .int 0, .int (-1), .int 0, .int 0, .int 0, .ref (g.1 + 269), .ref (g.1 + 270), .int 0, .int 0, .ref (g.1 + 271), .ref (g.1 + 272), .ref (g.1 + 273), .int 0, .ref (g.1 + 274), .int 0, .ref (g.1 + 275), .ref (g.1 + 276), .null, .int 0])) hv
  refine zk_aload_n (pc := 85) h dX12_init_85 rfl rfl ?_
  refine zk_bipush (pc := 86) (v := (6 : Int32)) h dX12_init_86 (by decide) ?_
  refine zk_new_int (pc := 88) (N := 6) h (by decide) (by decide) (by decide) (by dsimp only [gRk]; omega) (by dsimp only [gRk]; omega) dX12_init_88 ?_
  have hI := zI_push (by omega) (gE0_arr gkc_277 rfl) hI
  have hv := zup_ne (n := 277) (y := .inl (g.2.2 0, 6, .inl (fun _ => 0))) (by omega) hv
  refine zk_putF (pc := 90) (a := 267) (c := 12) (j := 25) (fs := [.int 0, .ref (g.1 + 268), .int 0, .int 0, .int 0, .int 0, .int 0, .int 0, .int 0, .int (-1), .int 0, .int 0, .int 0, .ref (g.1 + 269), .ref (g.1 + 270), .int 0, .int 0, .ref (g.1 + 271), .ref (g.1 + 272), .ref (g.1 + 273), .int 0, .ref (g.1 + 274), .int 0, .ref (g.1 + 275), .ref (g.1 + 276), .null, .int 0]) h (by omega) hv rfl (by decide) rfl rfl zu_X12 zv_1387 tyX12_ok nmX12 rfl rfl rfl (Nat.le_of_ble_eq_true rfl) dX12_init_90 ?_
  have hI := zI_put (x := .inr (12, [.int 0, .ref (g.1 + 268), .int 0, .int 0, .int 0, .int 0, .int 0, .int 0, .int 0, .int (-1), .int 0, .int 0, .int 0, .ref (g.1 + 269), .ref (g.1 + 270), .int 0, .int 0, .ref (g.1 + 271), .ref (g.1 + 272), .ref (g.1 + 273), .int 0, .ref (g.1 + 274), .int 0, .ref (g.1 + 275), .ref (g.1 + 276), .ref (g.1 + 277), .int 0])) hI
  have hv := zup_put (y := .inr (12, [.int 0, .ref (g.1 + 268), .int 0, .int 0, .int 0, .int 0, .int 0, .int 0, .int 0, .int (-1), .int 0, .int 0, .int 0, .ref (g.1 + 269), .ref (g.1 + 270), .int 0, .int 0, .ref (g.1 + 271), .ref (g.1 + 272), .ref (g.1 + 273), .int 0, .ref (g.1 + 274), .int 0, .ref (g.1 + 275), .ref (g.1 + 276), .ref (g.1 + 277), .int 0])) hv
  exact zk_ret (pc := 93) h rfl (by omega) rfl (zI_end hI (hv.trans (gE0_obj gkc_267 rfl)) (by omega)) dX12_init_93

