set_option maxRecDepth 100000 in
set_option maxHeartbeats 4000000 in
theorem cX3_openAll_ok {l : Launch} {g : gG} {μ : gM} {ν : gM} (hf : fX3_openAll μ = some ν) : gMet l g yX3_openAll cX3_openAll 1 none 3 102 [.ref (g.1 + 248)] μ none ν := by
  refine gMet_of (gIni [.ref (g.1 + 248)] ++ List.replicate 0 none) (by decide) (gIni_ok _ _) (Nat.le_of_ble_eq_true rfl) (fun K h => ?_)
  show K 0 [some (.ref (g.1 + 248))] [] μ
  unfold fX3_openAll at hf
  refine zr_aload_n (pc := 0) h dX3_openAll_0 rfl rfl ?_
  refine zf_X3_12 (pc := 1) h gkc_248 dX3_openAll_1 ?_
  refine zr_aload_n (pc := 4) h dX3_openAll_4 rfl rfl ?_
  refine zf_X3_18 (pc := 5) h gkc_248 dX3_openAll_5 ?_
  obtain ⟨μ1, eμ1, hf⟩ := zBd_s hf
  refine zm_X3_30 (pc := 8) h gkc_249 ⟨by decide, by decide⟩ (cX9_copyFrom_ok gkc_249 gkc_34 eμ1) rfl (Nat.le_of_ble_eq_true rfl) dX3_openAll_8 rfl ?_
  refine zr_aload_n (pc := 11) h dX3_openAll_11 rfl rfl ?_
  refine zf_X3_26 (pc := 12) h gkc_248 dX3_openAll_12 ?_
  obtain ⟨μ2, eμ2, hf⟩ := zBd_s hf
  refine zm_X3_34 (pc := 15) h gkc_263 ⟨by decide, by decide⟩ (cX10_runAllGroups_ok gkc_263 eμ2) rfl (Nat.le_of_ble_eq_true rfl) dX3_openAll_15 rfl ?_
  exact zr_vret (pc := 18) h dX3_openAll_18 rfl (zRv hf)

set_option maxRecDepth 100000 in
set_option maxHeartbeats 4000000 in
theorem cX3_open_ok {l : Launch} {g : gG} {a1 : Int32} {μ : gM} {ν : gM} (hf : fX3_open a1 μ = some ν) : gMet l g yX3_open cX3_open 2 none 3 102 [.ref (g.1 + 248), .int a1] μ none ν := by
  refine gMet_of (gIni [.ref (g.1 + 248), .int a1] ++ List.replicate 0 none) (by decide) (gIni_ok _ _) (Nat.le_of_ble_eq_true rfl) (fun K h => ?_)
  show K 0 [some (.ref (g.1 + 248)), some (.int a1)] [] μ
  unfold fX3_open at hf
  refine zr_aload_n (pc := 0) h dX3_open_0 rfl rfl ?_
  refine zf_X3_12 (pc := 1) h gkc_248 dX3_open_1 ?_
  refine zr_aload_n (pc := 4) h dX3_open_4 rfl rfl ?_
  refine zf_X3_18 (pc := 5) h gkc_248 dX3_open_5 ?_
  obtain ⟨μ1, eμ1, hf⟩ := zBd_s hf
  refine zm_X3_30 (pc := 8) h gkc_249 ⟨by decide, by decide⟩ (cX9_copyFrom_ok gkc_249 gkc_34 eμ1) rfl (Nat.le_of_ble_eq_true rfl) dX3_open_8 rfl ?_
  refine zr_aload_n (pc := 11) h dX3_open_11 rfl rfl ?_
  refine zf_X3_18 (pc := 12) h gkc_248 dX3_open_12 ?_
  refine zf_X3_37 (pc := 15) h gkc_34 dX3_open_15 ?_
  have hf := zIf_s hf
  refine zr_if_ne (pc := 18) (tgt := 32) h dX3_open_18 rfl (fun b4 => ?_) (fun b4 => ?_)
  · have hf := hf.2 b4
    refine zr_aload_n (pc := 32) h dX3_open_32 rfl rfl ?_
    refine zf_X3_26 (pc := 33) h gkc_248 dX3_open_33 ?_
    obtain ⟨μ2, eμ2, hf⟩ := zBd_s hf
    refine zm_X3_34 (pc := 36) h gkc_263 ⟨by decide, by decide⟩ (cX10_runAllGroups_ok gkc_263 eμ2) rfl (Nat.le_of_ble_eq_true rfl) dX3_open_36 rfl ?_
    exact zr_vret (pc := 39) h dX3_open_39 rfl (zRv hf)
  · have hf := hf.1 b4
    refine zr_aload_n (pc := 21) h dX3_open_21 rfl rfl ?_
    refine zf_X3_26 (pc := 22) h gkc_248 dX3_open_22 ?_
    refine zr_iload_n (pc := 25) h dX3_open_25 rfl rfl ?_
    obtain ⟨μ3, eμ3, hf⟩ := zBd_s hf
    refine zm_X3_41 (pc := 26) h gkc_263 ⟨by decide, by decide⟩ (cX10_runOneGroup_ok gkc_263 eμ3) rfl (Nat.le_of_ble_eq_true rfl) dX3_open_26 rfl ?_
    refine zr_goto (pc := 29) (tgt := 39) h dX3_open_29 rfl ?_
    exact zr_vret (pc := 39) h dX3_open_39 rfl (zRv hf)

set_option maxRecDepth 100000 in
set_option maxHeartbeats 4000000 in
theorem cX3_heldIn_ok {l : Launch} {g : gG} {a1 : Int32} {a2 : Int32} {μ : gM} {r : Int32} {ν : gM} (hf : fX3_heldIn a1 a2 μ = some (r, ν)) : gMet l g yX3_heldIn cX3_heldIn 3 (some .int) 6 178 [.ref (g.1 + 248), .int a1, .int a2] μ (some (.int r)) ν := by
  refine gMet_of (gIni [.ref (g.1 + 248), .int a1, .int a2] ++ List.replicate 0 none) (by decide) (gIni_ok _ _) (Nat.le_of_ble_eq_true rfl) (fun K h => ?_)
  show K 0 [some (.ref (g.1 + 248)), some (.int a1), some (.int a2)] [] μ
  unfold fX3_heldIn at hf
  refine zr_aload_n (pc := 0) h dX3_heldIn_0 rfl rfl ?_
  refine zr_iload_n (pc := 1) h dX3_heldIn_1 rfl rfl ?_
  obtain ⟨μ1, eμ1, hf⟩ := zBd_s hf
  refine zm_X3_45 (pc := 2) h gkc_248 ⟨by decide, by decide⟩ (cX3_open_ok eμ1) rfl (Nat.le_of_ble_eq_true rfl) dX3_heldIn_2 rfl ?_
  refine zr_aload_n (pc := 5) h dX3_heldIn_5 rfl rfl ?_
  refine zf_X3_26 (pc := 6) h gkc_248 dX3_heldIn_6 ?_
  refine zr_iload_n (pc := 9) h dX3_heldIn_9 rfl rfl ?_
  obtain ⟨μ2, eμ2, hf⟩ := zBd_s hf
  refine zm_X3_48 (pc := 10) h gkc_263 ⟨by decide, by decide⟩ (cX10_run_ok gkc_263 eμ2) rfl (Nat.le_of_ble_eq_true rfl) dX3_heldIn_10 rfl ?_
  refine zr_aload_n (pc := 13) h dX3_heldIn_13 rfl rfl ?_
  refine zf_X3_12 (pc := 14) h gkc_248 dX3_heldIn_14 ?_
  refine zf_X3_51 (pc := 17) h gkc_249 dX3_heldIn_17 ?_
  refine zr_iload_n (pc := 20) h dX3_heldIn_20 rfl rfl ?_
  obtain ⟨q3, hf⟩ := zCk_s hf
  refine zr_iald (pc := 21) h gkc_254 q3 rfl dX3_heldIn_21 ?_
  exact zr_iret (pc := 22) h dX3_heldIn_22 (zRp hf).1 (zRp hf).2

set_option maxRecDepth 100000 in
set_option maxHeartbeats 4000000 in
theorem cX3_mostTicks_ok {l : Launch} {g : gG} {μ : gM} {r : Int32} (hf : fX3_mostTicks μ = some r) : gMet l g yX3_mostTicks cX3_mostTicks 1 (some .int) 1 60 [.ref (g.1 + 248)] μ (some (.int r)) μ := by
  refine gMet_of (gIni [.ref (g.1 + 248)] ++ List.replicate 0 none) (by decide) (gIni_ok _ _) (Nat.le_of_ble_eq_true rfl) (fun K h => ?_)
  show K 0 [some (.ref (g.1 + 248))] [] μ
  unfold fX3_mostTicks at hf
  refine zr_sipush (pc := 0) (v := (500 : Int32)) h dX3_mostTicks_0 (by decide) ?_
  refine zr_sipush (pc := 3) (v := (9999 : Int32)) h dX3_mostTicks_3 (by decide) ?_
  refine zr_aload_n (pc := 6) h dX3_mostTicks_6 rfl rfl ?_
  refine zf_X3_18 (pc := 7) h gkc_248 dX3_mostTicks_7 ?_
  refine zf_X3_82 (pc := 10) h gkc_34 dX3_mostTicks_10 ?_
  refine zr_isub (pc := 13) h dX3_mostTicks_13 ?_
  refine zr_mmin (pc := 14) h zw_1227 zw_921 zw_198 zmc_min (by decide) (Nat.le_of_ble_eq_true rfl) dX3_mostTicks_14 ?_
  exact zr_iret (pc := 17) h dX3_mostTicks_17 (zRi hf) rfl

set_option maxRecDepth 100000 in
set_option maxHeartbeats 4000000 in
theorem cX3_otherHolder_ok {l : Launch} {g : gG} {a1 : Int32} {a2 : Int32} {μ : gM} {r : Int32} (hf : fX3_otherHolder a1 a2 μ = some r) : gMet l g yX3_otherHolder cX3_otherHolder 3 (some .int) 1 25 [.ref (g.1 + 248), .int a1, .int a2] μ (some (.int r)) μ := by
  refine gMet_of (gIni [.ref (g.1 + 248), .int a1, .int a2] ++ List.replicate 0 none) (by decide) (gIni_ok _ _) (Nat.le_of_ble_eq_true rfl) (fun K h => ?_)
  show K 0 [some (.ref (g.1 + 248)), some (.int a1), some (.int a2)] [] μ
  unfold fX3_otherHolder at hf
  refine zr_aload_n (pc := 0) h dX3_otherHolder_0 rfl rfl ?_
  refine zf_X3_12 (pc := 1) h gkc_248 dX3_otherHolder_1 ?_
  refine zr_iload_n (pc := 4) h dX3_otherHolder_4 rfl rfl ?_
  refine zr_aload_n (pc := 5) h dX3_otherHolder_5 rfl rfl ?_
  refine zf_X3_12 (pc := 6) h gkc_248 dX3_otherHolder_6 ?_
  refine zf_X3_51 (pc := 9) h gkc_249 dX3_otherHolder_9 ?_
  refine zr_iload_n (pc := 12) h dX3_otherHolder_12 rfl rfl ?_
  obtain ⟨q1, hf⟩ := zCk_s hf
  refine zr_iald (pc := 13) h gkc_254 q1 rfl dX3_otherHolder_13 ?_
  refine zr_aload_n (pc := 14) h dX3_otherHolder_14 rfl rfl ?_
  refine zf_X3_12 (pc := 15) h gkc_248 dX3_otherHolder_15 ?_
  refine zr_iload_n (pc := 18) h dX3_otherHolder_18 rfl rfl ?_
  obtain ⟨x2, ex2, hf⟩ := zBd_s hf
  refine zm_X3_76 (pc := 19) h gkc_249 ⟨by decide, by decide⟩ (cX9_beside_ok gkc_249 ex2) rfl (Nat.le_of_ble_eq_true rfl) dX3_otherHolder_19 rfl ?_
  refine zr_iand (pc := 22) h dX3_otherHolder_22 ?_
  refine zr_iconst (pc := 23) (v := (1 : Int32)) h dX3_otherHolder_23 (by decide) ?_
  refine zr_iload_n (pc := 24) h dX3_otherHolder_24 rfl rfl ?_
  refine zr_ishl (pc := 25) h dX3_otherHolder_25 ?_
  refine zr_iconst (pc := 26) (v := (-1 : Int32)) h dX3_otherHolder_26 (by decide) ?_
  refine zr_ixor (pc := 27) h dX3_otherHolder_27 ?_
  refine zr_iand (pc := 28) h dX3_otherHolder_28 ?_
  obtain ⟨x3, ex3, hf⟩ := zBd_s hf
  refine zm_X3_79 (pc := 29) h gkc_249 ⟨by decide, by decide⟩ (cX9_strongest_ok gkc_249 ex3) rfl (Nat.le_of_ble_eq_true rfl) dX3_otherHolder_29 rfl ?_
  exact zr_iret (pc := 32) h dX3_otherHolder_32 (zRi hf) rfl

set_option maxRecDepth 100000 in
set_option maxHeartbeats 4000000 in
theorem fX3_takenBehind_n62_ok {l : Launch} {g : gG} {r : Int32} {ν : gM} {K : gKt} (h : gR l g cX3_takenBehind RX3 5 (some .int) (gRm 5 156) (some (.int r)) ν K) {y1 : Int32} {y2 : Int32} {y4 : Int32} {μ : gM} (hf : fX3_takenBehind_n62 y1 y2 y4 μ = some (r, ν)) : K 62 [some (.ref (g.1 + 248)), some (.int y1), some (.int y2), none, some (.int y4)] [] μ := by
  unfold fX3_takenBehind_n62 at hf
  refine zr_aload_n (pc := 62) h dX3_takenBehind_62 rfl rfl ?_
  refine zr_iload_n (pc := 63) h dX3_takenBehind_63 rfl rfl ?_
  refine zr_iload_n (pc := 64) h dX3_takenBehind_64 rfl rfl ?_
  obtain ⟨x5, ex5, hf⟩ := zBd_s hf
  refine zm_X3_63 (pc := 65) h gkc_248 ⟨by decide, by decide⟩ (cX3_otherHolder_ok ex5) rfl (Nat.le_of_ble_eq_true rfl) dX3_takenBehind_65 rfl ?_
  refine zr_iconst (pc := 68) (v := (-1 : Int32)) h dX3_takenBehind_68 (by decide) ?_
  have hf := zIf_s hf
  refine zr_icmp_ne (pc := 69) (tgt := 76) h dX3_takenBehind_69 rfl (fun b6 => ?_) (fun b6 => ?_)
  · have hf := hf.2 b6
    refine zr_iload (pc := 76) h dX3_takenBehind_76 rfl ?_
    exact zr_iret (pc := 78) h dX3_takenBehind_78 (zRp hf).1 (zRp hf).2
  · have hf := hf.1 b6
    refine zr_iconst (pc := 72) (v := (-1 : Int32)) h dX3_takenBehind_72 (by decide) ?_
    refine zr_goto (pc := 73) (tgt := 78) h dX3_takenBehind_73 rfl ?_
    exact zr_iret (pc := 78) h dX3_takenBehind_78 (zRp hf).1 (zRp hf).2

set_option maxRecDepth 100000 in
set_option maxHeartbeats 4000000 in
theorem fX3_takenBehind_l23_ok {l : Launch} {g : gG} {r : Int32} {ν : gM} {K : gKt} (h : gR l g cX3_takenBehind RX3 5 (some .int) (gRm 5 156) (some (.int r)) ν K) : ∀ (n : Nat) (y1 : Int32) (y2 : Int32) (y3 : Int32) (y4 : Int32) (μ : gM), fX3_takenBehind_l23 n y1 y2 y3 y4 μ = some (r, ν) → K 23 [some (.ref (g.1 + 248)), some (.int y1), some (.int y2), some (.int y3), some (.int y4)] [] μ := by
  intro n
  induction n with
  | zero =>
    intro y1 y2 y3 y4 μ hf
    cases (show (none : Option (Int32 × gM)) = some _ from hf)
  | succ n ih =>
    intro y1 y2 y3 y4 μ hf
    unfold fX3_takenBehind_l23 at hf
    refine zr_iload (pc := 23) h dX3_takenBehind_23 rfl ?_
    refine zr_iload_n (pc := 25) h dX3_takenBehind_25 rfl rfl ?_
    have hf := zIf_s hf
    refine zr_icmp_ge (pc := 26) (tgt := 62) h dX3_takenBehind_26 rfl (fun b12 => ?_) (fun b12 => ?_)
    · have hf := hf.1 b12
      exact zr_weak h [true, true, true, false, true] (fX3_takenBehind_n62_ok h hf)
    · have hf := hf.2 b12
      refine zr_aload_n (pc := 29) h dX3_takenBehind_29 rfl rfl ?_
      refine zr_iload_n (pc := 30) h dX3_takenBehind_30 rfl rfl ?_
      refine zr_iload_n (pc := 31) h dX3_takenBehind_31 rfl rfl ?_
      obtain ⟨x7, ex7, hf⟩ := zBd_s hf
      refine zm_X3_63 (pc := 32) h gkc_248 ⟨by decide, by decide⟩ (cX3_otherHolder_ok ex7) rfl (Nat.le_of_ble_eq_true rfl) dX3_takenBehind_32 rfl ?_
      refine zr_iconst (pc := 35) (v := (-1 : Int32)) h dX3_takenBehind_35 (by decide) ?_
      have hf := zIf_s hf
      refine zr_icmp_ne (pc := 36) (tgt := 62) h dX3_takenBehind_36 rfl (fun b11 => ?_) (fun b11 => ?_)
      · have hf := hf.2 b11
        exact zr_weak h [true, true, true, false, true] (fX3_takenBehind_n62_ok h hf)
      · have hf := hf.1 b11
        refine zr_iload (pc := 39) h dX3_takenBehind_39 rfl ?_
        refine zr_aload_n (pc := 41) h dX3_takenBehind_41 rfl rfl ?_
        refine zf_X3_26 (pc := 42) h gkc_248 dX3_takenBehind_42 ?_
        refine zr_iload_n (pc := 45) h dX3_takenBehind_45 rfl rfl ?_
        refine zr_iload (pc := 46) h dX3_takenBehind_46 rfl ?_
        refine zr_isub (pc := 48) h dX3_takenBehind_48 ?_
        obtain ⟨x8, μ9, ex8, hf⟩ := zBp_s hf
        refine zm_X3_67 (pc := 49) h gkc_263 ⟨by decide, by decide⟩ (cX10_step_ok gkc_263 ex8) rfl (Nat.le_of_ble_eq_true rfl) dX3_takenBehind_49 rfl ?_
        refine zr_iconst (pc := 52) (v := (1 : Int32)) h dX3_takenBehind_52 (by decide) ?_
        refine zr_mmax (pc := 53) h zw_1235 zw_1061 zw_198 zmc_max (by decide) (Nat.le_of_ble_eq_true rfl) dX3_takenBehind_53 ?_
        refine zr_iadd (pc := 56) h dX3_takenBehind_56 ?_
        refine zr_topi h (fun x10 ex10 => ?_)
        have hf := zLt_s ex10 hf
        refine zr_istore (pc := 57) h dX3_takenBehind_57 (by decide) rfl ?_
        refine zr_goto (pc := 59) (tgt := 23) h dX3_takenBehind_59 rfl ?_
        exact zr_weak h [true, true, true, true, true] (ih _ _ _ _ _ hf)

set_option maxRecDepth 100000 in
set_option maxHeartbeats 4000000 in
theorem cX3_takenBehind_ok {l : Launch} {g : gG} {a1 : Int32} {a2 : Int32} {μ : gM} {r : Int32} {ν : gM} (hf : fX3_takenBehind a1 a2 μ = some (r, ν)) : gMet l g yX3_takenBehind cX3_takenBehind 5 (some .int) 5 156 [.ref (g.1 + 248), .int a1, .int a2] μ (some (.int r)) ν := by
  refine gMet_of (gIni [.ref (g.1 + 248), .int a1, .int a2] ++ List.replicate 2 none) (by decide) (gIni_ok _ _) (Nat.le_of_ble_eq_true rfl) (fun K h => ?_)
  show K 0 [some (.ref (g.1 + 248)), some (.int a1), some (.int a2), none, none] [] μ
  unfold fX3_takenBehind at hf
  refine zr_aload_n (pc := 0) h dX3_takenBehind_0 rfl rfl ?_
  refine zr_iload_n (pc := 1) h dX3_takenBehind_1 rfl rfl ?_
  obtain ⟨μ1, eμ1, hf⟩ := zBd_s hf
  refine zm_X3_45 (pc := 2) h gkc_248 ⟨by decide, by decide⟩ (cX3_open_ok eμ1) rfl (Nat.le_of_ble_eq_true rfl) dX3_takenBehind_2 rfl ?_
  refine zr_aload_n (pc := 5) h dX3_takenBehind_5 rfl rfl ?_
  refine zf_X3_26 (pc := 6) h gkc_248 dX3_takenBehind_6 ?_
  refine zr_iload_n (pc := 9) h dX3_takenBehind_9 rfl rfl ?_
  refine zr_iconst (pc := 10) (v := (0 : Int32)) h dX3_takenBehind_10 (by decide) ?_
  obtain ⟨x2, μ3, ex2, hf⟩ := zBp_s hf
  refine zm_X3_55 (pc := 11) h gkc_263 ⟨by decide, by decide⟩ (cX10_lower_ok gkc_263 ex2) rfl (Nat.le_of_ble_eq_true rfl) dX3_takenBehind_11 rfl ?_
  refine zr_pop (pc := 14) h dX3_takenBehind_14 rfl ?_
  refine zr_aload_n (pc := 15) h dX3_takenBehind_15 rfl rfl ?_
  obtain ⟨x4, ex4, hf⟩ := zBd_s hf
  refine zm_X3_59 (pc := 16) h gkc_248 ⟨by decide, by decide⟩ (cX3_mostTicks_ok ex4) rfl (Nat.le_of_ble_eq_true rfl) dX3_takenBehind_16 rfl ?_
  refine zr_istore_n (pc := 19) h dX3_takenBehind_19 rfl (by decide) rfl ?_
  refine zr_iconst (pc := 20) (v := (0 : Int32)) h dX3_takenBehind_20 (by decide) ?_
  refine zr_istore (pc := 21) h dX3_takenBehind_21 (by decide) rfl ?_
  exact zr_weak h [true, true, true, true, true] (fX3_takenBehind_l23_ok h 100000 _ _ _ _ _ hf)

set_option maxRecDepth 100000 in
set_option maxHeartbeats 4000000 in
theorem fX3_calmFrom_n77_ok {l : Launch} {g : gG} {r : Int32} {ν : gM} {K : gKt} (h : gR l g cX3_calmFrom RX3 4 (some .int) (gRm 5 156) (some (.int r)) ν K) {y1 : Int32} {μ : gM} (hf : fX3_calmFrom_n77 y1 μ = some (r, ν)) : K 77 [none, some (.int y1), none, none] [] μ := by
  unfold fX3_calmFrom_n77 at hf
  refine zr_iload_n (pc := 77) h dX3_calmFrom_77 rfl rfl ?_
  refine zr_sipush (pc := 78) (v := (500 : Int32)) h dX3_calmFrom_78 (by decide) ?_
  have hf := zIf_s hf
  refine zr_icmp_gt (pc := 81) (tgt := 88) h dX3_calmFrom_81 rfl (fun b2 => ?_) (fun b2 => ?_)
  · have hf := hf.1 b2
    refine zr_iconst (pc := 88) (v := (-1 : Int32)) h dX3_calmFrom_88 (by decide) ?_
    exact zr_iret (pc := 89) h dX3_calmFrom_89 (zRp hf).1 (zRp hf).2
  · have hf := hf.2 b2
    refine zr_iload_n (pc := 84) h dX3_calmFrom_84 rfl rfl ?_
    refine zr_goto (pc := 85) (tgt := 89) h dX3_calmFrom_85 rfl ?_
    exact zr_iret (pc := 89) h dX3_calmFrom_89 (zRp hf).1 (zRp hf).2

set_option maxRecDepth 100000 in
set_option maxHeartbeats 4000000 in
theorem fX3_calmFrom_l8_ok {l : Launch} {g : gG} {r : Int32} {ν : gM} {K : gKt} (h : gR l g cX3_calmFrom RX3 4 (some .int) (gRm 5 156) (some (.int r)) ν K) : ∀ (n : Nat) (y1 : Int32) (y2 : Int32) (μ : gM), fX3_calmFrom_l8 n y1 y2 μ = some (r, ν) → K 8 [some (.ref (g.1 + 248)), some (.int y1), some (.int y2), none] [] μ := by
  intro n
  induction n with
  | zero =>
    intro y1 y2 μ hf
    cases (show (none : Option (Int32 × gM)) = some _ from hf)
  | succ n ih =>
    intro y1 y2 μ hf
    unfold fX3_calmFrom_l8 at hf
    refine zr_iload_n (pc := 8) h dX3_calmFrom_8 rfl rfl ?_
    refine zr_sipush (pc := 9) (v := (600 : Int32)) h dX3_calmFrom_9 (by decide) ?_
    have hf := zIf_s hf
    refine zr_icmp_ge (pc := 12) (tgt := 77) h dX3_calmFrom_12 rfl (fun b10 => ?_) (fun b10 => ?_)
    · have hf := hf.1 b10
      exact zr_weak h [false, true, false, false] (fX3_calmFrom_n77_ok h hf)
    · have hf := hf.2 b10
      refine zr_iload_n (pc := 15) h dX3_calmFrom_15 rfl rfl ?_
      refine zr_sipush (pc := 16) (v := (500 : Int32)) h dX3_calmFrom_16 (by decide) ?_
      have hf := zIf_s hf
      refine zr_icmp_gt (pc := 19) (tgt := 77) h dX3_calmFrom_19 rfl (fun b9 => ?_) (fun b9 => ?_)
      · have hf := hf.1 b9
        exact zr_weak h [false, true, false, false] (fX3_calmFrom_n77_ok h hf)
      · have hf := hf.2 b9
        refine zr_iload_n (pc := 22) h dX3_calmFrom_22 rfl rfl ?_
        refine zr_iload_n (pc := 23) h dX3_calmFrom_23 rfl rfl ?_
        refine zr_isub (pc := 24) h dX3_calmFrom_24 ?_
        refine zr_bipush (pc := 25) (v := (100 : Int32)) h dX3_calmFrom_25 (by decide) ?_
        have hf := zIf_s hf
        refine zr_icmp_ge (pc := 27) (tgt := 77) h dX3_calmFrom_27 rfl (fun b8 => ?_) (fun b8 => ?_)
        · have hf := hf.1 b8
          exact zr_weak h [false, true, false, false] (fX3_calmFrom_n77_ok h hf)
        · have hf := hf.2 b8
          refine zr_aload_n (pc := 30) h dX3_calmFrom_30 rfl rfl ?_
          refine zf_X3_26 (pc := 31) h gkc_248 dX3_calmFrom_31 ?_
          refine zf_X3_91 (pc := 34) h gkc_263 dX3_calmFrom_34 ?_
          refine zr_topi h (fun x3 ex3 => ?_)
          have hf := zLt_s ex3 hf
          refine zr_istore_n (pc := 37) h dX3_calmFrom_37 rfl (by decide) rfl ?_
          refine zr_iload_n (pc := 38) h dX3_calmFrom_38 rfl rfl ?_
          refine zr_aload_n (pc := 39) h dX3_calmFrom_39 rfl rfl ?_
          refine zf_X3_26 (pc := 40) h gkc_248 dX3_calmFrom_40 ?_
          refine zr_sipush (pc := 43) (v := (600 : Int32)) h dX3_calmFrom_43 (by decide) ?_
          refine zr_iload_n (pc := 46) h dX3_calmFrom_46 rfl rfl ?_
          refine zr_isub (pc := 47) h dX3_calmFrom_47 ?_
          obtain ⟨x4, μ5, ex4, hf⟩ := zBp_s hf
          refine zm_X3_67 (pc := 48) h gkc_263 ⟨by decide, by decide⟩ (cX10_step_ok gkc_263 ex4) rfl (Nat.le_of_ble_eq_true rfl) dX3_calmFrom_48 rfl ?_
          refine zr_iconst (pc := 51) (v := (1 : Int32)) h dX3_calmFrom_51 (by decide) ?_
          refine zr_mmax (pc := 52) h zw_1235 zw_1061 zw_198 zmc_max (by decide) (Nat.le_of_ble_eq_true rfl) dX3_calmFrom_52 ?_
          refine zr_iadd (pc := 55) h dX3_calmFrom_55 ?_
          refine zr_topi h (fun x6 ex6 => ?_)
          have hf := zLt_s ex6 hf
          refine zr_istore_n (pc := 56) h dX3_calmFrom_56 rfl (by decide) rfl ?_
          refine zr_aload_n (pc := 57) h dX3_calmFrom_57 rfl rfl ?_
          refine zf_X3_26 (pc := 58) h gkc_248 dX3_calmFrom_58 ?_
          refine zf_X3_91 (pc := 61) h gkc_263 dX3_calmFrom_61 ?_
          refine zr_iload_n (pc := 64) h dX3_calmFrom_64 rfl rfl ?_
          have hf := zIf_s hf
          refine zr_icmp_ne (pc := 65) (tgt := 72) h dX3_calmFrom_65 rfl (fun b7 => ?_) (fun b7 => ?_)
          · have hf := hf.2 b7
            refine zr_iload_n (pc := 72) h dX3_calmFrom_72 rfl rfl ?_
            refine zr_istore_n (pc := 73) h dX3_calmFrom_73 rfl (by decide) rfl ?_
            refine zr_goto (pc := 74) (tgt := 8) h dX3_calmFrom_74 rfl ?_
            exact zr_weak h [true, true, true, false] (ih _ _ _ hf)
          · have hf := hf.1 b7
            refine zr_iload_n (pc := 68) h dX3_calmFrom_68 rfl rfl ?_
            refine zr_goto (pc := 69) (tgt := 73) h dX3_calmFrom_69 rfl ?_
            refine zr_istore_n (pc := 73) h dX3_calmFrom_73 rfl (by decide) rfl ?_
            refine zr_goto (pc := 74) (tgt := 8) h dX3_calmFrom_74 rfl ?_
            exact zr_weak h [true, true, true, false] (ih _ _ _ hf)

set_option maxRecDepth 100000 in
set_option maxHeartbeats 4000000 in
theorem cX3_calmFrom_ok {l : Launch} {g : gG} {μ : gM} {r : Int32} {ν : gM} (hf : fX3_calmFrom μ = some (r, ν)) : gMet l g yX3_calmFrom cX3_calmFrom 4 (some .int) 5 156 [.ref (g.1 + 248)] μ (some (.int r)) ν := by
  refine gMet_of (gIni [.ref (g.1 + 248)] ++ List.replicate 3 none) (by decide) (gIni_ok _ _) (Nat.le_of_ble_eq_true rfl) (fun K h => ?_)
  show K 0 [some (.ref (g.1 + 248)), none, none, none] [] μ
  unfold fX3_calmFrom at hf
  refine zr_aload_n (pc := 0) h dX3_calmFrom_0 rfl rfl ?_
  obtain ⟨μ1, eμ1, hf⟩ := zBd_s hf
  refine zm_X3_88 (pc := 1) h gkc_248 ⟨by decide, by decide⟩ (cX3_openAll_ok eμ1) rfl (Nat.le_of_ble_eq_true rfl) dX3_calmFrom_1 rfl ?_
  refine zr_iconst (pc := 4) (v := (0 : Int32)) h dX3_calmFrom_4 (by decide) ?_
  refine zr_istore_n (pc := 5) h dX3_calmFrom_5 rfl (by decide) rfl ?_
  refine zr_iconst (pc := 6) (v := (0 : Int32)) h dX3_calmFrom_6 (by decide) ?_
  refine zr_istore_n (pc := 7) h dX3_calmFrom_7 rfl (by decide) rfl ?_
  exact zr_weak h [true, true, true, false] (fX3_calmFrom_l8_ok h 100000 _ _ _ hf)

set_option maxRecDepth 100000 in
set_option maxHeartbeats 4000000 in
theorem fX3_leastWord_l2_ok {l : Launch} {g : gG} {r : Int32} {ν : gM} {K : gKt} (h : gR l g cX3_leastWord RX3 4 (some .int) (gRm 6 178) (some (.int r)) ν K) : ∀ (n : Nat) (y1 : Int32) (y2 : Int32) (y3 : Int32) (μ : gM), fX3_leastWord_l2 n y1 y2 y3 μ = some (r, ν) → K 2 [some (.ref (g.1 + 248)), some (.int y1), some (.int y2), some (.int y3)] [] μ := by
  intro n
  induction n with
  | zero =>
    intro y1 y2 y3 μ hf
    cases (show (none : Option (Int32 × gM)) = some _ from hf)
  | succ n ih =>
    intro y1 y2 y3 μ hf
    unfold fX3_leastWord_l2 at hf
    refine zr_iload_n (pc := 2) h dX3_leastWord_2 rfl rfl ?_
    refine zr_sipush (pc := 3) (v := (254 : Int32)) h dX3_leastWord_3 (by decide) ?_
    have hf := zIf_s hf
    refine zr_icmp_gt (pc := 6) (tgt := 54) h dX3_leastWord_6 rfl (fun b7 => ?_) (fun b7 => ?_)
    · have hf := hf.1 b7
      refine zr_iconst (pc := 54) (v := (-1 : Int32)) h dX3_leastWord_54 (by decide) ?_
      exact zr_iret (pc := 55) h dX3_leastWord_55 (zRp hf).1 (zRp hf).2
    · have hf := hf.2 b7
      refine zr_aload_n (pc := 9) h dX3_leastWord_9 rfl rfl ?_
      refine zr_iload_n (pc := 10) h dX3_leastWord_10 rfl rfl ?_
      obtain ⟨μ1, eμ1, hf⟩ := zBd_s hf
      refine zm_X3_45 (pc := 11) h gkc_248 ⟨by decide, by decide⟩ (cX3_open_ok eμ1) rfl (Nat.le_of_ble_eq_true rfl) dX3_leastWord_11 rfl ?_
      refine zr_aload_n (pc := 14) h dX3_leastWord_14 rfl rfl ?_
      refine zf_X3_26 (pc := 15) h gkc_248 dX3_leastWord_15 ?_
      refine zr_iload_n (pc := 18) h dX3_leastWord_18 rfl rfl ?_
      refine zr_iload_n (pc := 19) h dX3_leastWord_19 rfl rfl ?_
      refine zr_iload_n (pc := 20) h dX3_leastWord_20 rfl rfl ?_
      obtain ⟨μ2, eμ2, hf⟩ := zBd_s hf
      refine zm_X3_94 (pc := 21) h gkc_263 ⟨by decide, by decide⟩ (cX10_tell_ok gkc_263 eμ2) rfl (Nat.le_of_ble_eq_true rfl) dX3_leastWord_21 rfl ?_
      refine zr_aload_n (pc := 24) h dX3_leastWord_24 rfl rfl ?_
      refine zf_X3_26 (pc := 25) h gkc_248 dX3_leastWord_25 ?_
      refine zr_sipush (pc := 28) (v := (300 : Int32)) h dX3_leastWord_28 (by decide) ?_
      obtain ⟨μ3, eμ3, hf⟩ := zBd_s hf
      refine zm_X3_48 (pc := 31) h gkc_263 ⟨by decide, by decide⟩ (cX10_run_ok gkc_263 eμ3) rfl (Nat.le_of_ble_eq_true rfl) dX3_leastWord_31 rfl ?_
      refine zr_aload_n (pc := 34) h dX3_leastWord_34 rfl rfl ?_
      refine zf_X3_12 (pc := 35) h gkc_248 dX3_leastWord_35 ?_
      refine zr_iload_n (pc := 38) h dX3_leastWord_38 rfl rfl ?_
      refine zr_iload_n (pc := 39) h dX3_leastWord_39 rfl rfl ?_
      obtain ⟨x4, ex4, hf⟩ := zBd_s hf
      refine zm_X3_98 (pc := 40) h gkc_249 ⟨by decide, by decide⟩ (cX9_isHeld_ok gkc_249 ex4) rfl (Nat.le_of_ble_eq_true rfl) dX3_leastWord_40 rfl ?_
      have hf := zIf_s hf
      refine zr_if_eq (pc := 43) (tgt := 48) h dX3_leastWord_43 rfl (fun b6 => ?_) (fun b6 => ?_)
      · have hf := hf.1 b6
        refine zr_iincx (pc := 48) h dX3_leastWord_48 rfl (by decide) rfl (c := (1 : Int32)) (by decide) (fun x5 ex5 => ?_)
        have hf := zLt_s ex5 hf
        refine zr_goto (pc := 51) (tgt := 2) h dX3_leastWord_51 rfl ?_
        exact zr_weak h [true, true, true, true] (ih _ _ _ _ hf)
      · have hf := hf.2 b6
        refine zr_iload_n (pc := 46) h dX3_leastWord_46 rfl rfl ?_
        exact zr_iret (pc := 47) h dX3_leastWord_47 (zRp hf).1 (zRp hf).2

set_option maxRecDepth 100000 in
set_option maxHeartbeats 4000000 in
theorem cX3_leastWord_ok {l : Launch} {g : gG} {a1 : Int32} {a2 : Int32} {μ : gM} {r : Int32} {ν : gM} (hf : fX3_leastWord a1 a2 μ = some (r, ν)) : gMet l g yX3_leastWord cX3_leastWord 4 (some .int) 6 178 [.ref (g.1 + 248), .int a1, .int a2] μ (some (.int r)) ν := by
  refine gMet_of (gIni [.ref (g.1 + 248), .int a1, .int a2] ++ List.replicate 1 none) (by decide) (gIni_ok _ _) (Nat.le_of_ble_eq_true rfl) (fun K h => ?_)
  show K 0 [some (.ref (g.1 + 248)), some (.int a1), some (.int a2), none] [] μ
  unfold fX3_leastWord at hf
  refine zr_iconst (pc := 0) (v := (1 : Int32)) h dX3_leastWord_0 (by decide) ?_
  refine zr_istore_n (pc := 1) h dX3_leastWord_1 rfl (by decide) rfl ?_
  exact zr_weak h [true, true, true, true] (fX3_leastWord_l2_ok h 100000 _ _ _ _ hf)

set_option maxRecDepth 100000 in
set_option maxHeartbeats 4000000 in
theorem cX3_takesIn_ok {l : Launch} {g : gG} {a1 : Int32} {a2 : Int32} {μ : gM} {r : Int32} {ν : gM} (hf : fX3_takesIn a1 a2 μ = some (r, ν)) : gMet l g yX3_takesIn cX3_takesIn 3 (some .int) 6 178 [.ref (g.1 + 248), .int a1, .int a2] μ (some (.int r)) ν := by
  refine gMet_of (gIni [.ref (g.1 + 248), .int a1, .int a2] ++ List.replicate 0 none) (by decide) (gIni_ok _ _) (Nat.le_of_ble_eq_true rfl) (fun K h => ?_)
  show K 0 [some (.ref (g.1 + 248)), some (.int a1), some (.int a2)] [] μ
  unfold fX3_takesIn at hf
  refine zr_aload_n (pc := 0) h dX3_takesIn_0 rfl rfl ?_
  refine zr_iload_n (pc := 1) h dX3_takesIn_1 rfl rfl ?_
  obtain ⟨μ1, eμ1, hf⟩ := zBd_s hf
  refine zm_X3_45 (pc := 2) h gkc_248 ⟨by decide, by decide⟩ (cX3_open_ok eμ1) rfl (Nat.le_of_ble_eq_true rfl) dX3_takesIn_2 rfl ?_
  refine zr_aload_n (pc := 5) h dX3_takesIn_5 rfl rfl ?_
  refine zf_X3_26 (pc := 6) h gkc_248 dX3_takesIn_6 ?_
  refine zr_iload_n (pc := 9) h dX3_takesIn_9 rfl rfl ?_
  obtain ⟨μ2, eμ2, hf⟩ := zBd_s hf
  refine zm_X3_48 (pc := 10) h gkc_263 ⟨by decide, by decide⟩ (cX10_run_ok gkc_263 eμ2) rfl (Nat.le_of_ble_eq_true rfl) dX3_takesIn_10 rfl ?_
  refine zr_aload_n (pc := 13) h dX3_takesIn_13 rfl rfl ?_
  refine zf_X3_12 (pc := 14) h gkc_248 dX3_takesIn_14 ?_
  refine zf_X3_102 (pc := 17) h gkc_249 dX3_takesIn_17 ?_
  refine zr_iload_n (pc := 20) h dX3_takesIn_20 rfl rfl ?_
  obtain ⟨q3, hf⟩ := zCk_s hf
  refine zr_iald (pc := 21) h gkc_257 q3 rfl dX3_takesIn_21 ?_
  refine zr_aload_n (pc := 22) h dX3_takesIn_22 rfl rfl ?_
  refine zf_X3_18 (pc := 23) h gkc_248 dX3_takesIn_23 ?_
  refine zf_X3_102 (pc := 26) h gkc_34 dX3_takesIn_26 ?_
  refine zr_iload_n (pc := 29) h dX3_takesIn_29 rfl rfl ?_
  obtain ⟨q4, hf⟩ := zCk_s hf
  refine zr_iald (pc := 30) h gkc_42 q4 rfl dX3_takesIn_30 ?_
  refine zr_isub (pc := 31) h dX3_takesIn_31 ?_
  exact zr_iret (pc := 32) h dX3_takesIn_32 (zRp hf).1 (zRp hf).2

set_option maxRecDepth 100000 in
set_option maxHeartbeats 4000000 in
theorem cX3_holderWithCuts_ok {l : Launch} {g : gG} {a1 : Int32} {a2 : Int32} {a3 : Int32} {μ : gM} {r : Int32} {ν : gM} (hf : fX3_holderWithCuts a1 a2 a3 μ = some (r, ν)) : gMet l g yX3_holderWithCuts cX3_holderWithCuts 4 (some .int) 6 178 [.ref (g.1 + 248), .int a1, .int a2, .int a3] μ (some (.int r)) ν := by
  refine gMet_of (gIni [.ref (g.1 + 248), .int a1, .int a2, .int a3] ++ List.replicate 0 none) (by decide) (gIni_ok _ _) (Nat.le_of_ble_eq_true rfl) (fun K h => ?_)
  show K 0 [some (.ref (g.1 + 248)), some (.int a1), some (.int a2), some (.int a3)] [] μ
  unfold fX3_holderWithCuts at hf
  refine zr_aload_n (pc := 0) h dX3_holderWithCuts_0 rfl rfl ?_
  refine zr_iload_n (pc := 1) h dX3_holderWithCuts_1 rfl rfl ?_
  obtain ⟨μ1, eμ1, hf⟩ := zBd_s hf
  refine zm_X3_45 (pc := 2) h gkc_248 ⟨by decide, by decide⟩ (cX3_open_ok eμ1) rfl (Nat.le_of_ble_eq_true rfl) dX3_holderWithCuts_2 rfl ?_
  refine zr_aload_n (pc := 5) h dX3_holderWithCuts_5 rfl rfl ?_
  refine zf_X3_26 (pc := 6) h gkc_248 dX3_holderWithCuts_6 ?_
  refine zr_iload_n (pc := 9) h dX3_holderWithCuts_9 rfl rfl ?_
  obtain ⟨μ2, eμ2, hf⟩ := zBd_s hf
  refine zm_X3_105 (pc := 10) h gkc_263 ⟨by decide, by decide⟩ (cX10_setCuts_ok gkc_263 eμ2) rfl (Nat.le_of_ble_eq_true rfl) dX3_holderWithCuts_10 rfl ?_
  refine zr_aload_n (pc := 13) h dX3_holderWithCuts_13 rfl rfl ?_
  refine zf_X3_26 (pc := 14) h gkc_248 dX3_holderWithCuts_14 ?_
  refine zr_sipush (pc := 17) (v := (300 : Int32)) h dX3_holderWithCuts_17 (by decide) ?_
  obtain ⟨μ3, eμ3, hf⟩ := zBd_s hf
  refine zm_X3_48 (pc := 20) h gkc_263 ⟨by decide, by decide⟩ (cX10_run_ok gkc_263 eμ3) rfl (Nat.le_of_ble_eq_true rfl) dX3_holderWithCuts_20 rfl ?_
  refine zr_aload_n (pc := 23) h dX3_holderWithCuts_23 rfl rfl ?_
  refine zf_X3_12 (pc := 24) h gkc_248 dX3_holderWithCuts_24 ?_
  refine zr_iload_n (pc := 27) h dX3_holderWithCuts_27 rfl rfl ?_
  refine zr_iload_n (pc := 28) h dX3_holderWithCuts_28 rfl rfl ?_
  obtain ⟨x4, ex4, hf⟩ := zBd_s hf
  refine zm_X3_108 (pc := 29) h gkc_249 ⟨by decide, by decide⟩ (cX9_holderBeside_ok gkc_249 ex4) rfl (Nat.le_of_ble_eq_true rfl) dX3_holderWithCuts_29 rfl ?_
  exact zr_iret (pc := 32) h dX3_holderWithCuts_32 (zRp hf).1 (zRp hf).2

set_option maxRecDepth 100000 in
set_option maxHeartbeats 4000000 in
theorem cX3_sentIn_ok {l : Launch} {g : gG} {a1 : Int32} {μ : gM} {r : Int32} {ν : gM} (hf : fX3_sentIn a1 μ = some (r, ν)) : gMet l g yX3_sentIn cX3_sentIn 2 (some .int) 6 178 [.ref (g.1 + 248), .int a1] μ (some (.int r)) ν := by
  refine gMet_of (gIni [.ref (g.1 + 248), .int a1] ++ List.replicate 0 none) (by decide) (gIni_ok _ _) (Nat.le_of_ble_eq_true rfl) (fun K h => ?_)
  show K 0 [some (.ref (g.1 + 248)), some (.int a1)] [] μ
  unfold fX3_sentIn at hf
  refine zr_aload_n (pc := 0) h dX3_sentIn_0 rfl rfl ?_
  obtain ⟨μ1, eμ1, hf⟩ := zBd_s hf
  refine zm_X3_88 (pc := 1) h gkc_248 ⟨by decide, by decide⟩ (cX3_openAll_ok eμ1) rfl (Nat.le_of_ble_eq_true rfl) dX3_sentIn_1 rfl ?_
  refine zr_aload_n (pc := 4) h dX3_sentIn_4 rfl rfl ?_
  refine zf_X3_26 (pc := 5) h gkc_248 dX3_sentIn_5 ?_
  refine zr_iload_n (pc := 8) h dX3_sentIn_8 rfl rfl ?_
  obtain ⟨μ2, eμ2, hf⟩ := zBd_s hf
  refine zm_X3_48 (pc := 9) h gkc_263 ⟨by decide, by decide⟩ (cX10_run_ok gkc_263 eμ2) rfl (Nat.le_of_ble_eq_true rfl) dX3_sentIn_9 rfl ?_
  refine zr_aload_n (pc := 12) h dX3_sentIn_12 rfl rfl ?_
  refine zf_X3_12 (pc := 13) h gkc_248 dX3_sentIn_13 ?_
  refine zf_X3_111 (pc := 16) h gkc_249 dX3_sentIn_16 ?_
  refine zr_aload_n (pc := 19) h dX3_sentIn_19 rfl rfl ?_
  refine zf_X3_18 (pc := 20) h gkc_248 dX3_sentIn_20 ?_
  refine zf_X3_111 (pc := 23) h gkc_34 dX3_sentIn_23 ?_
  refine zr_isub (pc := 26) h dX3_sentIn_26 ?_
  exact zr_iret (pc := 27) h dX3_sentIn_27 (zRp hf).1 (zRp hf).2

set_option maxRecDepth 100000 in
set_option maxHeartbeats 4000000 in
theorem fX3_ticksHeld_l11_ok {l : Launch} {g : gG} {r : Int32} {ν : gM} {K : gKt} (h : gR l g cX3_ticksHeld RX3 7 (some .int) (gRm 5 156) (some (.int r)) ν K) : ∀ (n : Nat) (y1 : Int32) (y2 : Int32) (y3 : Int32) (y4 : Int32) (y5 : Int32) (μ : gM), fX3_ticksHeld_l11 n y1 y2 y3 y4 y5 μ = some (r, ν) → K 11 [some (.ref (g.1 + 248)), some (.int y1), some (.int y2), some (.int y3), some (.int y4), some (.int y5), none] [] μ := by
  intro n
  induction n with
  | zero =>
    intro y1 y2 y3 y4 y5 μ hf
    cases (show (none : Option (Int32 × gM)) = some _ from hf)
  | succ n ih =>
    intro y1 y2 y3 y4 y5 μ hf
    unfold fX3_ticksHeld_l11 at hf
    refine zr_iload (pc := 11) h dX3_ticksHeld_11 rfl ?_
    refine zr_iload_n (pc := 13) h dX3_ticksHeld_13 rfl rfl ?_
    have hf := zIf_s hf
    refine zr_icmp_ge (pc := 14) (tgt := 67) h dX3_ticksHeld_14 rfl (fun b10 => ?_) (fun b10 => ?_)
    · have hf := hf.1 b10
      refine zr_iload (pc := 67) h dX3_ticksHeld_67 rfl ?_
      exact zr_iret (pc := 69) h dX3_ticksHeld_69 (zRp hf).1 (zRp hf).2
    · have hf := hf.2 b10
      refine zr_aload_n (pc := 17) h dX3_ticksHeld_17 rfl rfl ?_
      refine zf_X3_26 (pc := 18) h gkc_248 dX3_ticksHeld_18 ?_
      refine zr_iload_n (pc := 21) h dX3_ticksHeld_21 rfl rfl ?_
      refine zr_iload (pc := 22) h dX3_ticksHeld_22 rfl ?_
      refine zr_isub (pc := 24) h dX3_ticksHeld_24 ?_
      obtain ⟨x2, μ3, ex2, hf⟩ := zBp_s hf
      refine zm_X3_67 (pc := 25) h gkc_263 ⟨by decide, by decide⟩ (cX10_step_ok gkc_263 ex2) rfl (Nat.le_of_ble_eq_true rfl) dX3_ticksHeld_25 rfl ?_
      refine zr_iconst (pc := 28) (v := (1 : Int32)) h dX3_ticksHeld_28 (by decide) ?_
      refine zr_mmax (pc := 29) h zw_1235 zw_1061 zw_198 zmc_max (by decide) (Nat.le_of_ble_eq_true rfl) dX3_ticksHeld_29 ?_
      refine zr_topi h (fun x4 ex4 => ?_)
      have hf := zLt_s ex4 hf
      refine zr_istore (pc := 32) h dX3_ticksHeld_32 (by decide) rfl ?_
      refine zr_iload (pc := 34) h dX3_ticksHeld_34 rfl ?_
      refine zr_iload (pc := 36) h dX3_ticksHeld_36 rfl ?_
      refine zr_iadd (pc := 38) h dX3_ticksHeld_38 ?_
      refine zr_topi h (fun x5 ex5 => ?_)
      have hf := zLt_s ex5 hf
      refine zr_istore (pc := 39) h dX3_ticksHeld_39 (by decide) rfl ?_
      refine zr_iload (pc := 41) h dX3_ticksHeld_41 rfl ?_
      refine zr_aload_n (pc := 43) h dX3_ticksHeld_43 rfl rfl ?_
      refine zf_X3_12 (pc := 44) h gkc_248 dX3_ticksHeld_44 ?_
      refine zr_iload_n (pc := 47) h dX3_ticksHeld_47 rfl rfl ?_
      refine zr_iload_n (pc := 48) h dX3_ticksHeld_48 rfl rfl ?_
      obtain ⟨x6, ex6, hf⟩ := zBd_s hf
      refine zm_X3_98 (pc := 49) h gkc_249 ⟨by decide, by decide⟩ (cX9_isHeld_ok gkc_249 ex6) rfl (Nat.le_of_ble_eq_true rfl) dX3_ticksHeld_49 rfl ?_
      have hf := zIf_s hf
      refine zr_if_eq (pc := 52) (tgt := 60) h dX3_ticksHeld_52 rfl (fun b9 => ?_) (fun b9 => ?_)
      · have hf := hf.1 b9
        refine zr_iconst (pc := 60) (v := (0 : Int32)) h dX3_ticksHeld_60 (by decide) ?_
        refine zr_iadd (pc := 61) h dX3_ticksHeld_61 ?_
        refine zr_topi h (fun x7 ex7 => ?_)
        have hf := zLt_s ex7 hf
        refine zr_istore (pc := 62) h dX3_ticksHeld_62 (by decide) rfl ?_
        refine zr_goto (pc := 64) (tgt := 11) h dX3_ticksHeld_64 rfl ?_
        exact zr_weak h [true, true, true, true, true, true, false] (ih _ _ _ _ _ _ hf)
      · have hf := hf.2 b9
        refine zr_iload (pc := 55) h dX3_ticksHeld_55 rfl ?_
        refine zr_goto (pc := 57) (tgt := 61) h dX3_ticksHeld_57 rfl ?_
        refine zr_iadd (pc := 61) h dX3_ticksHeld_61 ?_
        refine zr_topi h (fun x8 ex8 => ?_)
        have hf := zLt_s ex8 hf
        refine zr_istore (pc := 62) h dX3_ticksHeld_62 (by decide) rfl ?_
        refine zr_goto (pc := 64) (tgt := 11) h dX3_ticksHeld_64 rfl ?_
        exact zr_weak h [true, true, true, true, true, true, false] (ih _ _ _ _ _ _ hf)

set_option maxRecDepth 100000 in
set_option maxHeartbeats 4000000 in
theorem cX3_ticksHeld_ok {l : Launch} {g : gG} {a1 : Int32} {a2 : Int32} {a3 : Int32} {μ : gM} {r : Int32} {ν : gM} (hf : fX3_ticksHeld a1 a2 a3 μ = some (r, ν)) : gMet l g yX3_ticksHeld cX3_ticksHeld 7 (some .int) 5 156 [.ref (g.1 + 248), .int a1, .int a2, .int a3] μ (some (.int r)) ν := by
  refine gMet_of (gIni [.ref (g.1 + 248), .int a1, .int a2, .int a3] ++ List.replicate 3 none) (by decide) (gIni_ok _ _) (Nat.le_of_ble_eq_true rfl) (fun K h => ?_)
  show K 0 [some (.ref (g.1 + 248)), some (.int a1), some (.int a2), some (.int a3), none, none, none] [] μ
  unfold fX3_ticksHeld at hf
  refine zr_aload_n (pc := 0) h dX3_ticksHeld_0 rfl rfl ?_
  refine zr_iload_n (pc := 1) h dX3_ticksHeld_1 rfl rfl ?_
  obtain ⟨μ1, eμ1, hf⟩ := zBd_s hf
  refine zm_X3_45 (pc := 2) h gkc_248 ⟨by decide, by decide⟩ (cX3_open_ok eμ1) rfl (Nat.le_of_ble_eq_true rfl) dX3_ticksHeld_2 rfl ?_
  refine zr_iconst (pc := 5) (v := (0 : Int32)) h dX3_ticksHeld_5 (by decide) ?_
  refine zr_istore (pc := 6) h dX3_ticksHeld_6 (by decide) rfl ?_
  refine zr_iconst (pc := 8) (v := (0 : Int32)) h dX3_ticksHeld_8 (by decide) ?_
  refine zr_istore (pc := 9) h dX3_ticksHeld_9 (by decide) rfl ?_
  exact zr_weak h [true, true, true, true, true, true, false] (fX3_ticksHeld_l11_ok h 100000 _ _ _ _ _ _ hf)

set_option maxRecDepth 100000 in
set_option maxHeartbeats 4000000 in
theorem fX3_regainedBehind_n64_ok {l : Launch} {g : gG} {r : Int32} {ν : gM} {K : gKt} (h : gR l g cX3_regainedBehind RX3 5 (some .int) (gRm 5 156) (some (.int r)) ν K) {y1 : Int32} {y2 : Int32} {y4 : Int32} {μ : gM} (hf : fX3_regainedBehind_n64 y1 y2 y4 μ = some (r, ν)) : K 64 [some (.ref (g.1 + 248)), some (.int y1), some (.int y2), none, some (.int y4)] [] μ := by
  unfold fX3_regainedBehind_n64 at hf
  refine zr_aload_n (pc := 64) h dX3_regainedBehind_64 rfl rfl ?_
  refine zf_X3_12 (pc := 65) h gkc_248 dX3_regainedBehind_65 ?_
  refine zr_iload_n (pc := 68) h dX3_regainedBehind_68 rfl rfl ?_
  refine zr_iload_n (pc := 69) h dX3_regainedBehind_69 rfl rfl ?_
  obtain ⟨x4, ex4, hf⟩ := zBd_s hf
  refine zm_X3_98 (pc := 70) h gkc_249 ⟨by decide, by decide⟩ (cX9_isHeld_ok gkc_249 ex4) rfl (Nat.le_of_ble_eq_true rfl) dX3_regainedBehind_70 rfl ?_
  have hf := zIf_s hf
  refine zr_if_eq (pc := 73) (tgt := 81) h dX3_regainedBehind_73 rfl (fun b5 => ?_) (fun b5 => ?_)
  · have hf := hf.1 b5
    refine zr_iconst (pc := 81) (v := (-1 : Int32)) h dX3_regainedBehind_81 (by decide) ?_
    exact zr_iret (pc := 82) h dX3_regainedBehind_82 (zRp hf).1 (zRp hf).2
  · have hf := hf.2 b5
    refine zr_iload (pc := 76) h dX3_regainedBehind_76 rfl ?_
    refine zr_goto (pc := 78) (tgt := 82) h dX3_regainedBehind_78 rfl ?_
    exact zr_iret (pc := 82) h dX3_regainedBehind_82 (zRp hf).1 (zRp hf).2

set_option maxRecDepth 100000 in
set_option maxHeartbeats 4000000 in
theorem fX3_regainedBehind_l23_ok {l : Launch} {g : gG} {r : Int32} {ν : gM} {K : gKt} (h : gR l g cX3_regainedBehind RX3 5 (some .int) (gRm 5 156) (some (.int r)) ν K) : ∀ (n : Nat) (y1 : Int32) (y2 : Int32) (y3 : Int32) (y4 : Int32) (μ : gM), fX3_regainedBehind_l23 n y1 y2 y3 y4 μ = some (r, ν) → K 23 [some (.ref (g.1 + 248)), some (.int y1), some (.int y2), some (.int y3), some (.int y4)] [] μ := by
  intro n
  induction n with
  | zero =>
    intro y1 y2 y3 y4 μ hf
    cases (show (none : Option (Int32 × gM)) = some _ from hf)
  | succ n ih =>
    intro y1 y2 y3 y4 μ hf
    unfold fX3_regainedBehind_l23 at hf
    refine zr_iload (pc := 23) h dX3_regainedBehind_23 rfl ?_
    refine zr_iload_n (pc := 25) h dX3_regainedBehind_25 rfl rfl ?_
    have hf := zIf_s hf
    refine zr_icmp_ge (pc := 26) (tgt := 64) h dX3_regainedBehind_26 rfl (fun b11 => ?_) (fun b11 => ?_)
    · have hf := hf.1 b11
      exact zr_weak h [true, true, true, false, true] (fX3_regainedBehind_n64_ok h hf)
    · have hf := hf.2 b11
      refine zr_aload_n (pc := 29) h dX3_regainedBehind_29 rfl rfl ?_
      refine zf_X3_12 (pc := 30) h gkc_248 dX3_regainedBehind_30 ?_
      refine zr_iload_n (pc := 33) h dX3_regainedBehind_33 rfl rfl ?_
      refine zr_iload_n (pc := 34) h dX3_regainedBehind_34 rfl rfl ?_
      obtain ⟨x6, ex6, hf⟩ := zBd_s hf
      refine zm_X3_98 (pc := 35) h gkc_249 ⟨by decide, by decide⟩ (cX9_isHeld_ok gkc_249 ex6) rfl (Nat.le_of_ble_eq_true rfl) dX3_regainedBehind_35 rfl ?_
      have hf := zIf_s hf
      refine zr_if_ne (pc := 38) (tgt := 64) h dX3_regainedBehind_38 rfl (fun b10 => ?_) (fun b10 => ?_)
      · have hf := hf.2 b10
        exact zr_weak h [true, true, true, false, true] (fX3_regainedBehind_n64_ok h hf)
      · have hf := hf.1 b10
        refine zr_iload (pc := 41) h dX3_regainedBehind_41 rfl ?_
        refine zr_aload_n (pc := 43) h dX3_regainedBehind_43 rfl rfl ?_
        refine zf_X3_26 (pc := 44) h gkc_248 dX3_regainedBehind_44 ?_
        refine zr_iload_n (pc := 47) h dX3_regainedBehind_47 rfl rfl ?_
        refine zr_iload (pc := 48) h dX3_regainedBehind_48 rfl ?_
        refine zr_isub (pc := 50) h dX3_regainedBehind_50 ?_
        obtain ⟨x7, μ8, ex7, hf⟩ := zBp_s hf
        refine zm_X3_67 (pc := 51) h gkc_263 ⟨by decide, by decide⟩ (cX10_step_ok gkc_263 ex7) rfl (Nat.le_of_ble_eq_true rfl) dX3_regainedBehind_51 rfl ?_
        refine zr_iconst (pc := 54) (v := (1 : Int32)) h dX3_regainedBehind_54 (by decide) ?_
        refine zr_mmax (pc := 55) h zw_1235 zw_1061 zw_198 zmc_max (by decide) (Nat.le_of_ble_eq_true rfl) dX3_regainedBehind_55 ?_
        refine zr_iadd (pc := 58) h dX3_regainedBehind_58 ?_
        refine zr_topi h (fun x9 ex9 => ?_)
        have hf := zLt_s ex9 hf
        refine zr_istore (pc := 59) h dX3_regainedBehind_59 (by decide) rfl ?_
        refine zr_goto (pc := 61) (tgt := 23) h dX3_regainedBehind_61 rfl ?_
        exact zr_weak h [true, true, true, true, true] (ih _ _ _ _ _ hf)

set_option maxRecDepth 100000 in
set_option maxHeartbeats 4000000 in
theorem cX3_regainedBehind_ok {l : Launch} {g : gG} {a1 : Int32} {a2 : Int32} {μ : gM} {r : Int32} {ν : gM} (hf : fX3_regainedBehind a1 a2 μ = some (r, ν)) : gMet l g yX3_regainedBehind cX3_regainedBehind 5 (some .int) 5 156 [.ref (g.1 + 248), .int a1, .int a2] μ (some (.int r)) ν := by
  refine gMet_of (gIni [.ref (g.1 + 248), .int a1, .int a2] ++ List.replicate 2 none) (by decide) (gIni_ok _ _) (Nat.le_of_ble_eq_true rfl) (fun K h => ?_)
  show K 0 [some (.ref (g.1 + 248)), some (.int a1), some (.int a2), none, none] [] μ
  unfold fX3_regainedBehind at hf
  refine zr_aload_n (pc := 0) h dX3_regainedBehind_0 rfl rfl ?_
  refine zr_iload_n (pc := 1) h dX3_regainedBehind_1 rfl rfl ?_
  obtain ⟨μ1, eμ1, hf⟩ := zBd_s hf
  refine zm_X3_45 (pc := 2) h gkc_248 ⟨by decide, by decide⟩ (cX3_open_ok eμ1) rfl (Nat.le_of_ble_eq_true rfl) dX3_regainedBehind_2 rfl ?_
  refine zr_aload_n (pc := 5) h dX3_regainedBehind_5 rfl rfl ?_
  refine zf_X3_26 (pc := 6) h gkc_248 dX3_regainedBehind_6 ?_
  refine zr_iconst (pc := 9) (v := (1 : Int32)) h dX3_regainedBehind_9 (by decide) ?_
  refine zr_iload_n (pc := 10) h dX3_regainedBehind_10 rfl rfl ?_
  refine zr_ishl (pc := 11) h dX3_regainedBehind_11 ?_
  obtain ⟨μ2, eμ2, hf⟩ := zBd_s hf
  refine zm_X3_114 (pc := 12) h gkc_263 ⟨by decide, by decide⟩ (cX10_raise_ok gkc_263 eμ2) rfl (Nat.le_of_ble_eq_true rfl) dX3_regainedBehind_12 rfl ?_
  refine zr_aload_n (pc := 15) h dX3_regainedBehind_15 rfl rfl ?_
  obtain ⟨x3, ex3, hf⟩ := zBd_s hf
  refine zm_X3_59 (pc := 16) h gkc_248 ⟨by decide, by decide⟩ (cX3_mostTicks_ok ex3) rfl (Nat.le_of_ble_eq_true rfl) dX3_regainedBehind_16 rfl ?_
  refine zr_istore_n (pc := 19) h dX3_regainedBehind_19 rfl (by decide) rfl ?_
  refine zr_iconst (pc := 20) (v := (0 : Int32)) h dX3_regainedBehind_20 (by decide) ?_
  refine zr_istore (pc := 21) h dX3_regainedBehind_21 (by decide) rfl ?_
  exact zr_weak h [true, true, true, true, true] (fX3_regainedBehind_l23_ok h 100000 _ _ _ _ _ hf)

