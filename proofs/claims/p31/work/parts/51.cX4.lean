set_option maxRecDepth 100000 in
set_option maxHeartbeats 4000000 in
theorem cX4_forgetAll_ok {l : Launch} {g : gG} {μ : gM} {ν : gM} (hf : fX4_forgetAll μ = some ν) : gMet l g yX4_forgetAll cX4_forgetAll 1 none 0 0 [.ref (g.1 + 49)] μ none ν := by
  refine gMet_of (gIni [.ref (g.1 + 49)] ++ List.replicate 0 none) (by decide) (gIni_ok _ _) (Nat.le_of_ble_eq_true rfl) (fun K h => ?_)
  show K 0 [some (.ref (g.1 + 49))] [] μ
  unfold fX4_forgetAll at hf
  refine zr_aload_n (pc := 0) h dX4_forgetAll_0 rfl rfl ?_
  refine zr_iconst (pc := 1) (v := (0 : Int32)) h dX4_forgetAll_1 (by decide) ?_
  refine zp_X4_21 (pc := 2) h gkc_49 dX4_forgetAll_2 ?_
  refine zr_mu h (fun μ1 eμ1 => ?_)
  have hf := zLt_s eμ1 hf
  refine zr_aload_n (pc := 5) h dX4_forgetAll_5 rfl rfl ?_
  refine zr_iconst (pc := 6) (v := (0 : Int32)) h dX4_forgetAll_6 (by decide) ?_
  refine zp_X4_25 (pc := 7) h gkc_49 dX4_forgetAll_7 ?_
  refine zr_mu h (fun μ2 eμ2 => ?_)
  have hf := zLt_s eμ2 hf
  exact zr_vret (pc := 10) h dX4_forgetAll_10 rfl (zRv hf)

set_option maxRecDepth 100000 in
set_option maxHeartbeats 4000000 in
theorem fX4_save_n22_ok {l : Launch} {g : gG} {p1 : Nat} {ν : gM} {K : gKt} (h : gR l g cX4_save RX4 2 none (gRm 3 102) none ν K) (h1 : gk p1 = (0, 9)) {z0 : Int32} {μ : gM} (hf : fX4_save_n22 p1 z0 μ = some ν) : K 22 [some (.ref (g.1 + 49)), some (.ref (g.1 + p1))] [.int z0, .ref (g.1 + 49)] μ := by
  unfold fX4_save_n22 at hf
  refine zp_X4_28 (pc := 22) h gkc_49 dX4_save_22 ?_
  refine zr_mu h (fun μ1 eμ1 => ?_)
  have hf := zLt_s eμ1 hf
  refine zr_aload_n (pc := 25) h dX4_save_25 rfl rfl ?_
  refine zr_aload_n (pc := 26) h dX4_save_26 rfl rfl ?_
  refine zf_X4_21 (pc := 27) h gkc_49 dX4_save_27 ?_
  refine zr_iconst (pc := 30) (v := (1 : Int32)) h dX4_save_30 (by decide) ?_
  refine zr_iadd (pc := 31) h dX4_save_31 ?_
  refine zr_bipush (pc := 32) (v := (12 : Int32)) h dX4_save_32 (by decide) ?_
  refine zr_mmin (pc := 34) h zw_920 zw_921 zw_198 zmc_min (by decide) (Nat.le_of_ble_eq_true rfl) dX4_save_34 ?_
  refine zp_X4_21 (pc := 37) h gkc_49 dX4_save_37 ?_
  refine zr_mu h (fun μ2 eμ2 => ?_)
  have hf := zLt_s eμ2 hf
  refine zr_aload_n (pc := 40) h dX4_save_40 rfl rfl ?_
  refine zf_X4_11 (pc := 41) h gkc_49 dX4_save_41 ?_
  refine zr_aload_n (pc := 44) h dX4_save_44 rfl rfl ?_
  refine zf_X4_28 (pc := 45) h gkc_49 dX4_save_45 ?_
  obtain ⟨q3, hf⟩ := zCk_s hf
  refine zr_aald (pc := 48) h gkc_50 q3 rfl dX4_save_48 ?_
  refine zr_aload_n (pc := 49) h dX4_save_49 rfl rfl ?_
  obtain ⟨μ4, eμ4, hf⟩ := zBd_s hf
  refine zm_X4_37 (pc := 50) h (ge_50 q3) ⟨by decide, by decide⟩ (cX9_copyFrom_ok (ge_50 q3) h1 eμ4) rfl (Nat.le_of_ble_eq_true rfl) dX4_save_50 rfl ?_
  exact zr_vret (pc := 53) h dX4_save_53 rfl (zRv hf)

set_option maxRecDepth 100000 in
set_option maxHeartbeats 4000000 in
theorem cX4_save_ok {l : Launch} {g : gG} {p1 : Nat} {μ : gM} {ν : gM} (h1 : gk p1 = (0, 9)) (hf : fX4_save p1 μ = some ν) : gMet l g yX4_save cX4_save 2 none 3 102 [.ref (g.1 + 49), .ref (g.1 + p1)] μ none ν := by
  refine gMet_of (gIni [.ref (g.1 + 49), .ref (g.1 + p1)] ++ List.replicate 0 none) (by decide) (gIni_ok _ _) (Nat.le_of_ble_eq_true rfl) (fun K h => ?_)
  show K 0 [some (.ref (g.1 + 49)), some (.ref (g.1 + p1))] [] μ
  unfold fX4_save at hf
  refine zr_aload_n (pc := 0) h dX4_save_0 rfl rfl ?_
  refine zr_aload_n (pc := 1) h dX4_save_1 rfl rfl ?_
  refine zf_X4_28 (pc := 2) h gkc_49 dX4_save_2 ?_
  refine zr_iconst (pc := 5) (v := (1 : Int32)) h dX4_save_5 (by decide) ?_
  refine zr_iadd (pc := 6) h dX4_save_6 ?_
  refine zr_bipush (pc := 7) (v := (12 : Int32)) h dX4_save_7 (by decide) ?_
  have hf := zIf_s hf
  refine zr_icmp_ge (pc := 9) (tgt := 21) h dX4_save_9 rfl (fun b5 => ?_) (fun b5 => ?_)
  · have hf := hf.1 b5
    refine zr_iconst (pc := 21) (v := (0 : Int32)) h dX4_save_21 (by decide) ?_
    exact zr_weak h [true, true] (fX4_save_n22_ok h h1 hf)
  · have hf := hf.2 b5
    refine zr_aload_n (pc := 12) h dX4_save_12 rfl rfl ?_
    refine zf_X4_28 (pc := 13) h gkc_49 dX4_save_13 ?_
    refine zr_iconst (pc := 16) (v := (1 : Int32)) h dX4_save_16 (by decide) ?_
    refine zr_iadd (pc := 17) h dX4_save_17 ?_
    refine zr_goto (pc := 18) (tgt := 22) h dX4_save_18 rfl ?_
    exact zr_weak h [true, true] (fX4_save_n22_ok h h1 hf)

set_option maxRecDepth 100000 in
set_option maxHeartbeats 4000000 in
theorem fX4_restore_n41_ok {l : Launch} {g : gG} {p1 : Nat} {r : Int32} {ν : gM} {K : gKt} (h : gR l g cX4_restore RX4 2 (some .boolean) (gRm 3 102) (some (.int r)) ν K) (h1 : gk p1 = (0, 9)) {z0 : Int32} {μ : gM} (hf : fX4_restore_n41 p1 z0 μ = some (r, ν)) : K 41 [some (.ref (g.1 + 49)), none] [.int z0, .ref (g.1 + 49)] μ := by
  unfold fX4_restore_n41 at hf
  refine zp_X4_28 (pc := 41) h gkc_49 dX4_restore_41 ?_
  refine zr_mu h (fun μ3 eμ3 => ?_)
  have hf := zLt_s eμ3 hf
  refine zr_aload_n (pc := 44) h dX4_restore_44 rfl rfl ?_
  refine zr_dup (pc := 45) h dX4_restore_45 rfl ?_
  refine zf_X4_21 (pc := 46) h gkc_49 dX4_restore_46 ?_
  refine zr_iconst (pc := 49) (v := (1 : Int32)) h dX4_restore_49 (by decide) ?_
  refine zr_isub (pc := 50) h dX4_restore_50 ?_
  refine zp_X4_21 (pc := 51) h gkc_49 dX4_restore_51 ?_
  refine zr_mu h (fun μ4 eμ4 => ?_)
  have hf := zLt_s eμ4 hf
  refine zr_iconst (pc := 54) (v := (1 : Int32)) h dX4_restore_54 (by decide) ?_
  exact zr_zret (pc := 55) h rfl dX4_restore_55 (zRp hf).1 (zRp hf).2

set_option maxRecDepth 100000 in
set_option maxHeartbeats 4000000 in
theorem cX4_restore_ok {l : Launch} {g : gG} {p1 : Nat} {μ : gM} {r : Int32} {ν : gM} (h1 : gk p1 = (0, 9)) (hf : fX4_restore p1 μ = some (r, ν)) : gMet l g yX4_restore cX4_restore 2 (some .boolean) 3 102 [.ref (g.1 + 49), .ref (g.1 + p1)] μ (some (.int r)) ν := by
  refine gMet_of (gIni [.ref (g.1 + 49), .ref (g.1 + p1)] ++ List.replicate 0 none) (by decide) (gIni_ok _ _) (Nat.le_of_ble_eq_true rfl) (fun K h => ?_)
  show K 0 [some (.ref (g.1 + 49)), some (.ref (g.1 + p1))] [] μ
  unfold fX4_restore at hf
  refine zr_aload_n (pc := 0) h dX4_restore_0 rfl rfl ?_
  refine zf_X4_21 (pc := 1) h gkc_49 dX4_restore_1 ?_
  have hf := zIf_s hf
  refine zr_if_ne (pc := 4) (tgt := 9) h dX4_restore_4 rfl (fun b6 => ?_) (fun b6 => ?_)
  · have hf := hf.2 b6
    refine zr_aload_n (pc := 9) h dX4_restore_9 rfl rfl ?_
    refine zr_aload_n (pc := 10) h dX4_restore_10 rfl rfl ?_
    refine zf_X4_11 (pc := 11) h gkc_49 dX4_restore_11 ?_
    refine zr_aload_n (pc := 14) h dX4_restore_14 rfl rfl ?_
    refine zf_X4_28 (pc := 15) h gkc_49 dX4_restore_15 ?_
    obtain ⟨q1, hf⟩ := zCk_s hf
    refine zr_aald (pc := 18) h gkc_50 q1 rfl dX4_restore_18 ?_
    obtain ⟨μ2, eμ2, hf⟩ := zBd_s hf
    refine zm_X4_37 (pc := 19) h h1 ⟨by decide, by decide⟩ (cX9_copyFrom_ok h1 (ge_50 q1) eμ2) rfl (Nat.le_of_ble_eq_true rfl) dX4_restore_19 rfl ?_
    refine zr_aload_n (pc := 22) h dX4_restore_22 rfl rfl ?_
    refine zr_aload_n (pc := 23) h dX4_restore_23 rfl rfl ?_
    refine zf_X4_28 (pc := 24) h gkc_49 dX4_restore_24 ?_
    have hf := zIf_s hf
    refine zr_if_le (pc := 27) (tgt := 39) h dX4_restore_27 rfl (fun b5 => ?_) (fun b5 => ?_)
    · have hf := hf.1 b5
      refine zr_bipush (pc := 39) (v := (11 : Int32)) h dX4_restore_39 (by decide) ?_
      exact zr_weak h [true, false] (fX4_restore_n41_ok h h1 hf)
    · have hf := hf.2 b5
      refine zr_aload_n (pc := 30) h dX4_restore_30 rfl rfl ?_
      refine zf_X4_28 (pc := 31) h gkc_49 dX4_restore_31 ?_
      refine zr_iconst (pc := 34) (v := (1 : Int32)) h dX4_restore_34 (by decide) ?_
      refine zr_isub (pc := 35) h dX4_restore_35 ?_
      refine zr_goto (pc := 36) (tgt := 41) h dX4_restore_36 rfl ?_
      exact zr_weak h [true, false] (fX4_restore_n41_ok h h1 hf)
  · have hf := hf.1 b6
    refine zr_iconst (pc := 7) (v := (0 : Int32)) h dX4_restore_7 (by decide) ?_
    exact zr_zret (pc := 8) h rfl dX4_restore_8 (zRp hf).1 (zRp hf).2

set_option maxRecDepth 100000 in
set_option maxHeartbeats 4000000 in
theorem cX4_keepImage_ok {l : Launch} {g : gG} {p2 : Nat} {a1 : Int32} {μ : gM} {ν : gM} (h2 : gk p2 = (0, 9)) (hf : fX4_keepImage p2 a1 μ = some ν) : gMet l g yX4_keepImage cX4_keepImage 3 none 3 102 [.ref (g.1 + 49), .int a1, .ref (g.1 + p2)] μ none ν := by
  refine gMet_of (gIni [.ref (g.1 + 49), .int a1, .ref (g.1 + p2)] ++ List.replicate 0 none) (by decide) (gIni_ok _ _) (Nat.le_of_ble_eq_true rfl) (fun K h => ?_)
  show K 0 [some (.ref (g.1 + 49)), some (.int a1), some (.ref (g.1 + p2))] [] μ
  unfold fX4_keepImage at hf
  refine zr_aload_n (pc := 0) h dX4_keepImage_0 rfl rfl ?_
  refine zf_X4_17 (pc := 1) h gkc_49 dX4_keepImage_1 ?_
  refine zr_iload_n (pc := 4) h dX4_keepImage_4 rfl rfl ?_
  obtain ⟨q1, hf⟩ := zCk_s hf
  refine zr_aald (pc := 5) h gkc_51 q1 rfl dX4_keepImage_5 ?_
  refine zr_aload_n (pc := 6) h dX4_keepImage_6 rfl rfl ?_
  obtain ⟨μ2, eμ2, hf⟩ := zBd_s hf
  refine zm_X4_37 (pc := 7) h (ge_51 q1) ⟨by decide, by decide⟩ (cX9_copyFrom_ok (ge_51 q1) h2 eμ2) rfl (Nat.le_of_ble_eq_true rfl) dX4_keepImage_7 rfl ?_
  refine zr_aload_n (pc := 10) h dX4_keepImage_10 rfl rfl ?_
  refine zr_dup (pc := 11) h dX4_keepImage_11 rfl ?_
  refine zf_X4_25 (pc := 12) h gkc_49 dX4_keepImage_12 ?_
  refine zr_iconst (pc := 15) (v := (1 : Int32)) h dX4_keepImage_15 (by decide) ?_
  refine zr_iload_n (pc := 16) h dX4_keepImage_16 rfl rfl ?_
  refine zr_ishl (pc := 17) h dX4_keepImage_17 ?_
  refine zr_ior (pc := 18) h dX4_keepImage_18 ?_
  refine zp_X4_25 (pc := 19) h gkc_49 dX4_keepImage_19 ?_
  refine zr_mu h (fun μ3 eμ3 => ?_)
  have hf := zLt_s eμ3 hf
  exact zr_vret (pc := 22) h dX4_keepImage_22 rfl (zRv hf)

set_option maxRecDepth 100000 in
set_option maxHeartbeats 4000000 in
theorem cX4_takeImage_ok {l : Launch} {g : gG} {p2 : Nat} {a1 : Int32} {μ : gM} {r : Int32} {ν : gM} (h2 : gk p2 = (0, 9)) (hf : fX4_takeImage p2 a1 μ = some (r, ν)) : gMet l g yX4_takeImage cX4_takeImage 3 (some .boolean) 3 102 [.ref (g.1 + 49), .int a1, .ref (g.1 + p2)] μ (some (.int r)) ν := by
  refine gMet_of (gIni [.ref (g.1 + 49), .int a1, .ref (g.1 + p2)] ++ List.replicate 0 none) (by decide) (gIni_ok _ _) (Nat.le_of_ble_eq_true rfl) (fun K h => ?_)
  show K 0 [some (.ref (g.1 + 49)), some (.int a1), some (.ref (g.1 + p2))] [] μ
  unfold fX4_takeImage at hf
  refine zr_aload_n (pc := 0) h dX4_takeImage_0 rfl rfl ?_
  refine zf_X4_25 (pc := 1) h gkc_49 dX4_takeImage_1 ?_
  refine zr_iload_n (pc := 4) h dX4_takeImage_4 rfl rfl ?_
  refine zr_ishr (pc := 5) h dX4_takeImage_5 ?_
  refine zr_iconst (pc := 6) (v := (1 : Int32)) h dX4_takeImage_6 (by decide) ?_
  refine zr_iand (pc := 7) h dX4_takeImage_7 ?_
  have hf := zIf_s hf
  refine zr_if_ne (pc := 8) (tgt := 13) h dX4_takeImage_8 rfl (fun b4 => ?_) (fun b4 => ?_)
  · have hf := hf.2 b4
    refine zr_aload_n (pc := 13) h dX4_takeImage_13 rfl rfl ?_
    refine zr_aload_n (pc := 14) h dX4_takeImage_14 rfl rfl ?_
    refine zf_X4_17 (pc := 15) h gkc_49 dX4_takeImage_15 ?_
    refine zr_iload_n (pc := 18) h dX4_takeImage_18 rfl rfl ?_
    obtain ⟨q1, hf⟩ := zCk_s hf
    refine zr_aald (pc := 19) h gkc_51 q1 rfl dX4_takeImage_19 ?_
    obtain ⟨μ2, eμ2, hf⟩ := zBd_s hf
    refine zm_X4_37 (pc := 20) h h2 ⟨by decide, by decide⟩ (cX9_copyFrom_ok h2 (ge_51 q1) eμ2) rfl (Nat.le_of_ble_eq_true rfl) dX4_takeImage_20 rfl ?_
    refine zr_aload_n (pc := 23) h dX4_takeImage_23 rfl rfl ?_
    refine zr_iconst (pc := 24) (v := (0 : Int32)) h dX4_takeImage_24 (by decide) ?_
    refine zp_X4_21 (pc := 25) h gkc_49 dX4_takeImage_25 ?_
    refine zr_mu h (fun μ3 eμ3 => ?_)
    have hf := zLt_s eμ3 hf
    refine zr_iconst (pc := 28) (v := (1 : Int32)) h dX4_takeImage_28 (by decide) ?_
    exact zr_zret (pc := 29) h rfl dX4_takeImage_29 (zRp hf).1 (zRp hf).2
  · have hf := hf.1 b4
    refine zr_iconst (pc := 11) (v := (0 : Int32)) h dX4_takeImage_11 (by decide) ?_
    exact zr_zret (pc := 12) h rfl dX4_takeImage_12 (zRp hf).1 (zRp hf).2

set_option maxRecDepth 100000 in
set_option maxHeartbeats 4000000 in
theorem fX8_neediest_n47_ok {l : Launch} {g : gG} {k11 : Int32 → Int32 → Int32 → Int32 → Int32 → Int32 → gM → Option Int32} {r : Int32} {μe : gM} {K : gKt} (h : gR l g cX8_neediest RX8 9 (some .int) (gRm 0 0) (some (.int r)) μe K) (hk11 : ∀ (y1 : Int32) (y2 : Int32) (y3 : Int32) (y4 : Int32) (y5 : Int32) (y6 : Int32), k11 y1 y2 y3 y4 y5 y6 μe = some r → K 11 [some (.ref (g.1 + 264)), some (.int y1), some (.int y2), some (.int y3), some (.int y4), some (.int y5), some (.int y6), none, none] [] μe) {y1 : Int32} {y2 : Int32} {y3 : Int32} {y4 : Int32} {y5 : Int32} {y6 : Int32} {z0 : Int32} (hf : fX8_neediest_n47 k11 y1 y2 y3 y4 y5 y6 z0 μe = some r) : K 47 [some (.ref (g.1 + 264)), some (.int y1), some (.int y2), some (.int y3), some (.int y4), some (.int y5), some (.int y6), none, none] [.int z0] μe := by
  unfold fX8_neediest_n47 at hf
  refine zr_istore (pc := 47) h dX8_neediest_47 (by decide) rfl ?_
  refine zr_aload_n (pc := 49) h dX8_neediest_49 rfl rfl ?_
  refine zf_X8_15 (pc := 50) h gkc_264 dX8_neediest_50 ?_
  refine zr_iload (pc := 53) h dX8_neediest_53 rfl ?_
  obtain ⟨q1, hf⟩ := zCk_s hf
  refine zr_iald (pc := 55) h gkc_266 q1 rfl dX8_neediest_55 ?_
  refine zr_iconst (pc := 56) (v := (1 : Int32)) h dX8_neediest_56 (by decide) ?_
  refine zr_iadd (pc := 57) h dX8_neediest_57 ?_
  refine zr_topi h (fun x2 ex2 => ?_)
  have hf := zLt_s ex2 hf
  refine zr_istore (pc := 58) h dX8_neediest_58 (by decide) rfl ?_
  refine zr_iload (pc := 60) h dX8_neediest_60 rfl ?_
  refine zr_iload (pc := 62) h dX8_neediest_62 rfl ?_
  refine zr_imul (pc := 64) h dX8_neediest_64 ?_
  refine zr_iload (pc := 65) h dX8_neediest_65 rfl ?_
  refine zr_iload (pc := 67) h dX8_neediest_67 rfl ?_
  refine zr_imul (pc := 69) h dX8_neediest_69 ?_
  have hf := zIf_s hf
  refine zr_icmp_le (pc := 70) (tgt := 84) h dX8_neediest_70 rfl (fun b5 => ?_) (fun b5 => ?_)
  · have hf := hf.1 b5
    refine zr_iincx (pc := 84) h dX8_neediest_84 rfl (by decide) rfl (c := (1 : Int32)) (by decide) (fun x3 ex3 => ?_)
    have hf := zLt_s ex3 hf
    refine zr_goto (pc := 87) (tgt := 11) h dX8_neediest_87 rfl ?_
    exact zr_weak h [true, true, true, true, true, true, true, false, false] (hk11 _ _ _ _ _ _ hf)
  · have hf := hf.2 b5
    refine zr_iload (pc := 73) h dX8_neediest_73 rfl ?_
    refine zr_istore_n (pc := 75) h dX8_neediest_75 rfl (by decide) rfl ?_
    refine zr_iload (pc := 76) h dX8_neediest_76 rfl ?_
    refine zr_istore (pc := 78) h dX8_neediest_78 (by decide) rfl ?_
    refine zr_iload (pc := 80) h dX8_neediest_80 rfl ?_
    refine zr_istore (pc := 82) h dX8_neediest_82 (by decide) rfl ?_
    refine zr_iincx (pc := 84) h dX8_neediest_84 rfl (by decide) rfl (c := (1 : Int32)) (by decide) (fun x4 ex4 => ?_)
    have hf := zLt_s ex4 hf
    refine zr_goto (pc := 87) (tgt := 11) h dX8_neediest_87 rfl ?_
    exact zr_weak h [true, true, true, true, true, true, true, false, false] (hk11 _ _ _ _ _ _ hf)

set_option maxRecDepth 100000 in
set_option maxHeartbeats 4000000 in
theorem fX8_neediest_l11_ok {l : Launch} {g : gG} {r : Int32} {μe : gM} {K : gKt} (h : gR l g cX8_neediest RX8 9 (some .int) (gRm 0 0) (some (.int r)) μe K) : ∀ (n : Nat) (y1 : Int32) (y2 : Int32) (y3 : Int32) (y4 : Int32) (y5 : Int32) (y6 : Int32), fX8_neediest_l11 n y1 y2 y3 y4 y5 y6 μe = some r → K 11 [some (.ref (g.1 + 264)), some (.int y1), some (.int y2), some (.int y3), some (.int y4), some (.int y5), some (.int y6), none, none] [] μe := by
  intro n
  induction n with
  | zero =>
    intro y1 y2 y3 y4 y5 y6 hf
    cases (show (none : Option Int32) = some _ from hf)
  | succ n ih =>
    intro y1 y2 y3 y4 y5 y6 hf
    unfold fX8_neediest_l11 at hf
    refine zr_iload (pc := 11) h dX8_neediest_11 rfl ?_
    refine zr_bipush (pc := 13) (v := (6 : Int32)) h dX8_neediest_13 (by decide) ?_
    have hf := zIf_s hf
    refine zr_icmp_ge (pc := 15) (tgt := 90) h dX8_neediest_15 rfl (fun b8 => ?_) (fun b8 => ?_)
    · have hf := hf.1 b8
      refine zr_iload_n (pc := 90) h dX8_neediest_90 rfl rfl ?_
      exact zr_iret (pc := 91) h dX8_neediest_91 (zRi hf) rfl
    · have hf := hf.2 b8
      refine zr_iload_n (pc := 18) h dX8_neediest_18 rfl rfl ?_
      refine zr_iload (pc := 19) h dX8_neediest_19 rfl ?_
      refine zr_ishr (pc := 21) h dX8_neediest_21 ?_
      refine zr_iconst (pc := 22) (v := (1 : Int32)) h dX8_neediest_22 (by decide) ?_
      refine zr_iand (pc := 23) h dX8_neediest_23 ?_
      refine zr_iconst (pc := 24) (v := (1 : Int32)) h dX8_neediest_24 (by decide) ?_
      have hf := zIf_s hf
      refine zr_icmp_ne (pc := 25) (tgt := 46) h dX8_neediest_25 rfl (fun b7 => ?_) (fun b7 => ?_)
      · have hf := hf.2 b7
        refine zr_iconst (pc := 46) (v := (0 : Int32)) h dX8_neediest_46 (by decide) ?_
        exact zr_weak h [true, true, true, true, true, true, true, false, false] (fX8_neediest_n47_ok h ih hf)
      · have hf := hf.1 b7
        refine zr_aload_n (pc := 28) h dX8_neediest_28 rfl rfl ?_
        refine zf_X8_18 (pc := 29) h gkc_264 dX8_neediest_29 ?_
        refine zf_X8_48 (pc := 32) h gkc_4 dX8_neediest_32 ?_
        refine zr_iload_n (pc := 35) h dX8_neediest_35 rfl rfl ?_
        refine zr_bipush (pc := 36) (v := (6 : Int32)) h dX8_neediest_36 (by decide) ?_
        refine zr_imul (pc := 38) h dX8_neediest_38 ?_
        refine zr_iload (pc := 39) h dX8_neediest_39 rfl ?_
        refine zr_iadd (pc := 41) h dX8_neediest_41 ?_
        obtain ⟨q6, hf⟩ := zCk_s hf
        refine zr_iald (pc := 42) h gkc_13 q6 rfl dX8_neediest_42 ?_
        refine zr_goto (pc := 43) (tgt := 47) h dX8_neediest_43 rfl ?_
        exact zr_weak h [true, true, true, true, true, true, true, false, false] (fX8_neediest_n47_ok h ih hf)

set_option maxRecDepth 100000 in
set_option maxHeartbeats 4000000 in
theorem cX8_neediest_ok {l : Launch} {g : gG} {a1 : Int32} {a2 : Int32} {μ : gM} {r : Int32} (hf : fX8_neediest a1 a2 μ = some r) : gMet l g yX8_neediest cX8_neediest 9 (some .int) 0 0 [.ref (g.1 + 264), .int a1, .int a2] μ (some (.int r)) μ := by
  refine gMet_of (gIni [.ref (g.1 + 264), .int a1, .int a2] ++ List.replicate 6 none) (by decide) (gIni_ok _ _) (Nat.le_of_ble_eq_true rfl) (fun K h => ?_)
  show K 0 [some (.ref (g.1 + 264)), some (.int a1), some (.int a2), none, none, none, none, none, none] [] μ
  unfold fX8_neediest at hf
  refine zr_iconst (pc := 0) (v := (-1 : Int32)) h dX8_neediest_0 (by decide) ?_
  refine zr_istore_n (pc := 1) h dX8_neediest_1 rfl (by decide) rfl ?_
  refine zr_iconst (pc := 2) (v := (0 : Int32)) h dX8_neediest_2 (by decide) ?_
  refine zr_istore (pc := 3) h dX8_neediest_3 (by decide) rfl ?_
  refine zr_iconst (pc := 5) (v := (1 : Int32)) h dX8_neediest_5 (by decide) ?_
  refine zr_istore (pc := 6) h dX8_neediest_6 (by decide) rfl ?_
  refine zr_iconst (pc := 8) (v := (0 : Int32)) h dX8_neediest_8 (by decide) ?_
  refine zr_istore (pc := 9) h dX8_neediest_9 (by decide) rfl ?_
  exact zr_weak h [true, true, true, true, true, true, true, false, false] (fX8_neediest_l11_ok h 100000 _ _ _ _ _ _ hf)

set_option maxRecDepth 100000 in
set_option maxHeartbeats 4000000 in
theorem fX8_lay_n85_ok {l : Launch} {g : gG} {k54 : Int32 → Int32 → Int32 → gM → Option gM} {ν : gM} {K : gKt} (h : gR l g cX8_lay RX8 6 none (gRm 1 28) none ν K) (hk54 : ∀ (y1 : Int32) (y3 : Int32) (y4 : Int32) (ν1 : gM), k54 y1 y3 y4 ν1 = some ν → K 54 [some (.ref (g.1 + 264)), some (.int y1), none, some (.int y3), some (.int y4), none] [] ν1) {y1 : Int32} {y3 : Int32} {y4 : Int32} {z0 : Int32} {μ : gM} (hf : fX8_lay_n85 k54 y1 y3 y4 z0 μ = some ν) : K 85 [some (.ref (g.1 + 264)), some (.int y1), none, some (.int y3), some (.int y4), none] [.int z0] μ := by
  unfold fX8_lay_n85 at hf
  refine zr_istore (pc := 85) h dX8_lay_85 (by decide) rfl ?_
  refine zr_aload_n (pc := 87) h dX8_lay_87 rfl rfl ?_
  refine zf_X8_9 (pc := 88) h gkc_264 dX8_lay_88 ?_
  refine zr_iload (pc := 91) h dX8_lay_91 rfl ?_
  refine zr_iload (pc := 93) h dX8_lay_93 rfl ?_
  obtain ⟨q5, hf⟩ := zCk_s hf
  refine zr_iast (pc := 95) h gkc_265 q5 rfl dX8_lay_95 ?_
  refine zr_mu h (fun μ6 eμ6 => ?_)
  have hf := zLt_s eμ6 hf
  refine zr_iload (pc := 96) h dX8_lay_96 rfl ?_
  refine zr_iconst (pc := 98) (v := (-1 : Int32)) h dX8_lay_98 (by decide) ?_
  have hf := zIf_s hf
  refine zr_icmp_eq (pc := 99) (tgt := 113) h dX8_lay_99 rfl (fun b12 => ?_) (fun b12 => ?_)
  · have hf := hf.1 b12
    refine zr_iincx (pc := 113) h dX8_lay_113 rfl (by decide) rfl (c := (1 : Int32)) (by decide) (fun x7 ex7 => ?_)
    have hf := zLt_s ex7 hf
    refine zr_goto (pc := 116) (tgt := 54) h dX8_lay_116 rfl ?_
    exact zr_weak h [true, true, false, true, true, false] (hk54 _ _ _ _ hf)
  · have hf := hf.2 b12
    refine zr_aload_n (pc := 102) h dX8_lay_102 rfl rfl ?_
    refine zf_X8_15 (pc := 103) h gkc_264 dX8_lay_103 ?_
    refine zr_iload (pc := 106) h dX8_lay_106 rfl ?_
    refine zr_dup2 (pc := 108) h dX8_lay_108 rfl rfl ?_
    obtain ⟨q8, hf⟩ := zCk_s hf
    refine zr_iald (pc := 109) h gkc_266 q8 rfl dX8_lay_109 ?_
    refine zr_iconst (pc := 110) (v := (1 : Int32)) h dX8_lay_110 (by decide) ?_
    refine zr_iadd (pc := 111) h dX8_lay_111 ?_
    obtain ⟨q9, hf⟩ := zCk_s hf
    refine zr_iast (pc := 112) h gkc_266 q9 rfl dX8_lay_112 ?_
    refine zr_mu h (fun μ10 eμ10 => ?_)
    have hf := zLt_s eμ10 hf
    refine zr_iincx (pc := 113) h dX8_lay_113 rfl (by decide) rfl (c := (1 : Int32)) (by decide) (fun x11 ex11 => ?_)
    have hf := zLt_s ex11 hf
    refine zr_goto (pc := 116) (tgt := 54) h dX8_lay_116 rfl ?_
    exact zr_weak h [true, true, false, true, true, false] (hk54 _ _ _ _ hf)

set_option maxRecDepth 100000 in
set_option maxHeartbeats 4000000 in
theorem fX8_lay_l54_ok {l : Launch} {g : gG} {ν : gM} {K : gKt} (h : gR l g cX8_lay RX8 6 none (gRm 1 28) none ν K) : ∀ (n : Nat) (y1 : Int32) (y3 : Int32) (y4 : Int32) (μ : gM), fX8_lay_l54 n y1 y3 y4 μ = some ν → K 54 [some (.ref (g.1 + 264)), some (.int y1), none, some (.int y3), some (.int y4), none] [] μ := by
  intro n
  induction n with
  | zero =>
    intro y1 y3 y4 μ hf
    cases (show (none : Option gM) = some _ from hf)
  | succ n ih =>
    intro y1 y3 y4 μ hf
    unfold fX8_lay_l54 at hf
    refine zr_iload (pc := 54) h dX8_lay_54 rfl ?_
    refine zr_bipush (pc := 56) (v := (8 : Int32)) h dX8_lay_56 (by decide) ?_
    have hf := zIf_s hf
    refine zr_icmp_ge (pc := 58) (tgt := 119) h dX8_lay_58 rfl (fun b15 => ?_) (fun b15 => ?_)
    · have hf := hf.1 b15
      exact zr_vret (pc := 119) h dX8_lay_119 rfl (zRv hf)
    · have hf := hf.2 b15
      refine zr_iload (pc := 61) h dX8_lay_61 rfl ?_
      refine zr_aload_n (pc := 63) h dX8_lay_63 rfl rfl ?_
      refine zf_X8_18 (pc := 64) h gkc_264 dX8_lay_64 ?_
      refine zf_X8_41 (pc := 67) h gkc_4 dX8_lay_67 ?_
      refine zr_iload_n (pc := 70) h dX8_lay_70 rfl rfl ?_
      obtain ⟨q4, hf⟩ := zCk_s hf
      refine zr_iald (pc := 71) h gkc_10 q4 rfl dX8_lay_71 ?_
      have hf := zIf_s hf
      refine zr_icmp_ge (pc := 72) (tgt := 84) h dX8_lay_72 rfl (fun b14 => ?_) (fun b14 => ?_)
      · have hf := hf.1 b14
        refine zr_iconst (pc := 84) (v := (-1 : Int32)) h dX8_lay_84 (by decide) ?_
        exact zr_weak h [true, true, false, true, true, false] (fX8_lay_n85_ok h ih hf)
      · have hf := hf.2 b14
        refine zr_aload_n (pc := 75) h dX8_lay_75 rfl rfl ?_
        refine zr_iload_n (pc := 76) h dX8_lay_76 rfl rfl ?_
        refine zr_iload_n (pc := 77) h dX8_lay_77 rfl rfl ?_
        obtain ⟨x13, ex13, hf⟩ := zBd_s hf
        refine zm_X8_44 (pc := 78) h gkc_264 ⟨by decide, by decide⟩ (cX8_neediest_ok ex13) rfl (Nat.le_of_ble_eq_true rfl) dX8_lay_78 rfl ?_
        refine zr_goto (pc := 81) (tgt := 85) h dX8_lay_81 rfl ?_
        exact zr_weak h [true, true, false, true, true, false] (fX8_lay_n85_ok h ih hf)

set_option maxRecDepth 100000 in
set_option maxHeartbeats 4000000 in
theorem fX8_lay_l30_ok {l : Launch} {g : gG} {ν : gM} {K : gKt} (h : gR l g cX8_lay RX8 6 none (gRm 1 28) none ν K) : ∀ (n : Nat) (y1 : Int32) (y3 : Int32) (y4 : Int32) (μ : gM), fX8_lay_l30 n y1 y3 y4 μ = some ν → K 30 [some (.ref (g.1 + 264)), some (.int y1), none, some (.int y3), some (.int y4), none] [] μ := by
  intro n
  induction n with
  | zero =>
    intro y1 y3 y4 μ hf
    cases (show (none : Option gM) = some _ from hf)
  | succ n ih =>
    intro y1 y3 y4 μ hf
    unfold fX8_lay_l30 at hf
    refine zr_iload (pc := 30) h dX8_lay_30 rfl ?_
    refine zr_bipush (pc := 32) (v := (6 : Int32)) h dX8_lay_32 (by decide) ?_
    have hf := zIf_s hf
    refine zr_icmp_ge (pc := 34) (tgt := 51) h dX8_lay_34 rfl (fun b19 => ?_) (fun b19 => ?_)
    · have hf := hf.1 b19
      refine zr_iconst (pc := 51) (v := (0 : Int32)) h dX8_lay_51 (by decide) ?_
      refine zr_istore (pc := 52) h dX8_lay_52 (by decide) rfl ?_
      exact zr_weak h [true, true, false, true, true, false] (fX8_lay_l54_ok h 100000 _ _ _ _ hf)
    · have hf := hf.2 b19
      refine zr_aload_n (pc := 37) h dX8_lay_37 rfl rfl ?_
      refine zf_X8_15 (pc := 38) h gkc_264 dX8_lay_38 ?_
      refine zr_iload (pc := 41) h dX8_lay_41 rfl ?_
      refine zr_iconst (pc := 43) (v := (0 : Int32)) h dX8_lay_43 (by decide) ?_
      obtain ⟨q16, hf⟩ := zCk_s hf
      refine zr_iast (pc := 44) h gkc_266 q16 rfl dX8_lay_44 ?_
      refine zr_mu h (fun μ17 eμ17 => ?_)
      have hf := zLt_s eμ17 hf
      refine zr_iincx (pc := 45) h dX8_lay_45 rfl (by decide) rfl (c := (1 : Int32)) (by decide) (fun x18 ex18 => ?_)
      have hf := zLt_s ex18 hf
      refine zr_goto (pc := 48) (tgt := 30) h dX8_lay_48 rfl ?_
      exact zr_weak h [true, true, false, true, true, false] (ih _ _ _ _ hf)

set_option maxRecDepth 100000 in
set_option maxHeartbeats 4000000 in
theorem cX8_lay_ok {l : Launch} {g : gG} {a1 : Int32} {a2 : Int32} {μ : gM} {ν : gM} (hf : fX8_lay a1 a2 μ = some ν) : gMet l g yX8_lay cX8_lay 6 none 1 28 [.ref (g.1 + 264), .int a1, .int a2] μ none ν := by
  refine gMet_of (gIni [.ref (g.1 + 264), .int a1, .int a2] ++ List.replicate 3 none) (by decide) (gIni_ok _ _) (Nat.le_of_ble_eq_true rfl) (fun K h => ?_)
  show K 0 [some (.ref (g.1 + 264)), some (.int a1), some (.int a2), none, none, none] [] μ
  unfold fX8_lay at hf
  refine zr_aload_n (pc := 0) h dX8_lay_0 rfl rfl ?_
  refine zf_X8_18 (pc := 1) h gkc_264 dX8_lay_1 ?_
  refine zf_X8_26 (pc := 4) h gkc_4 dX8_lay_4 ?_
  refine zr_iload_n (pc := 7) h dX8_lay_7 rfl rfl ?_
  obtain ⟨q1, hf⟩ := zCk_s hf
  refine zr_iald (pc := 8) h gkc_11 q1 rfl dX8_lay_8 ?_
  refine zr_aload_n (pc := 9) h dX8_lay_9 rfl rfl ?_
  refine zf_X8_22 (pc := 10) h gkc_264 dX8_lay_10 ?_
  refine zf_X8_31 (pc := 13) h gkc_34 dX8_lay_13 ?_
  refine zr_iand (pc := 16) h dX8_lay_16 ?_
  refine zr_aload_n (pc := 17) h dX8_lay_17 rfl rfl ?_
  refine zf_X8_22 (pc := 18) h gkc_264 dX8_lay_18 ?_
  refine zr_iload_n (pc := 21) h dX8_lay_21 rfl rfl ?_
  obtain ⟨x2, ex2, hf⟩ := zBd_s hf
  refine zm_X8_37 (pc := 22) h gkc_34 ⟨by decide, by decide⟩ (cX9_beside_ok gkc_34 ex2) rfl (Nat.le_of_ble_eq_true rfl) dX8_lay_22 rfl ?_
  refine zr_iand (pc := 25) h dX8_lay_25 ?_
  refine zr_topi h (fun x3 ex3 => ?_)
  have hf := zLt_s ex3 hf
  refine zr_istore_n (pc := 26) h dX8_lay_26 rfl (by decide) rfl ?_
  refine zr_iconst (pc := 27) (v := (0 : Int32)) h dX8_lay_27 (by decide) ?_
  refine zr_istore (pc := 28) h dX8_lay_28 (by decide) rfl ?_
  exact zr_weak h [true, true, false, true, true, false] (fX8_lay_l30_ok h 100000 _ _ _ _ hf)

set_option maxRecDepth 100000 in
set_option maxHeartbeats 4000000 in
theorem cX8_ownerOf_ok {l : Launch} {g : gG} {a1 : Int32} {μ : gM} {r : Int32} (hf : fX8_ownerOf a1 μ = some r) : gMet l g yX8_ownerOf cX8_ownerOf 2 (some .int) 0 0 [.ref (g.1 + 264), .int a1] μ (some (.int r)) μ := by
  refine gMet_of (gIni [.ref (g.1 + 264), .int a1] ++ List.replicate 0 none) (by decide) (gIni_ok _ _) (Nat.le_of_ble_eq_true rfl) (fun K h => ?_)
  show K 0 [some (.ref (g.1 + 264)), some (.int a1)] [] μ
  unfold fX8_ownerOf at hf
  refine zr_iload_n (pc := 0) h dX8_ownerOf_0 rfl rfl ?_
  have hf := zIf_s hf
  refine zr_if_lt (pc := 1) (tgt := 19) h dX8_ownerOf_1 rfl (fun b3 => ?_) (fun b3 => ?_)
  · have hf := hf.1 b3
    refine zr_iconst (pc := 19) (v := (-1 : Int32)) h dX8_ownerOf_19 (by decide) ?_
    exact zr_iret (pc := 20) h dX8_ownerOf_20 (zRi hf) rfl
  · have hf := hf.2 b3
    refine zr_iload_n (pc := 4) h dX8_ownerOf_4 rfl rfl ?_
    refine zr_bipush (pc := 5) (v := (8 : Int32)) h dX8_ownerOf_5 (by decide) ?_
    have hf := zIf_s hf
    refine zr_icmp_ge (pc := 7) (tgt := 19) h dX8_ownerOf_7 rfl (fun b2 => ?_) (fun b2 => ?_)
    · have hf := hf.1 b2
      refine zr_iconst (pc := 19) (v := (-1 : Int32)) h dX8_ownerOf_19 (by decide) ?_
      exact zr_iret (pc := 20) h dX8_ownerOf_20 (zRi hf) rfl
    · have hf := hf.2 b2
      refine zr_aload_n (pc := 10) h dX8_ownerOf_10 rfl rfl ?_
      refine zf_X8_9 (pc := 11) h gkc_264 dX8_ownerOf_11 ?_
      refine zr_iload_n (pc := 14) h dX8_ownerOf_14 rfl rfl ?_
      obtain ⟨q1, hf⟩ := zCk_s hf
      refine zr_iald (pc := 15) h gkc_265 q1 rfl dX8_ownerOf_15 ?_
      refine zr_goto (pc := 16) (tgt := 20) h dX8_ownerOf_16 rfl ?_
      exact zr_iret (pc := 20) h dX8_ownerOf_20 (zRi hf) rfl

set_option maxRecDepth 100000 in
set_option maxHeartbeats 4000000 in
theorem fX8_countHosts_l25_ok {l : Launch} {g : gG} {r : Int32} {μe : gM} {K : gKt} (h : gR l g cX8_countHosts RX8 7 (some .int) (gRm 0 0) (some (.int r)) μe K) : ∀ (n : Nat) (y2 : Int32) (y3 : Int32) (y4 : Int32) (y5 : Int32) (y6 : Int32), fX8_countHosts_l25 n y2 y3 y4 y5 y6 μe = some r → K 25 [some (.ref (g.1 + 264)), none, some (.int y2), some (.int y3), some (.int y4), some (.int y5), some (.int y6)] [] μe := by
  intro n
  induction n with
  | zero =>
    intro y2 y3 y4 y5 y6 hf
    cases (show (none : Option Int32) = some _ from hf)
  | succ n ih =>
    intro y2 y3 y4 y5 y6 hf
    unfold fX8_countHosts_l25 at hf
    refine zr_iload (pc := 25) h dX8_countHosts_25 rfl ?_
    refine zr_iload (pc := 27) h dX8_countHosts_27 rfl ?_
    have hf := zIf_s hf
    refine zr_icmp_ge (pc := 29) (tgt := 80) h dX8_countHosts_29 rfl (fun b14 => ?_) (fun b14 => ?_)
    · have hf := hf.1 b14
      refine zr_iload (pc := 80) h dX8_countHosts_80 rfl ?_
      exact zr_iret (pc := 82) h dX8_countHosts_82 (zRi hf) rfl
    · have hf := hf.2 b14
      refine zr_iload (pc := 32) h dX8_countHosts_32 rfl ?_
      refine zr_bipush (pc := 34) (v := (8 : Int32)) h dX8_countHosts_34 (by decide) ?_
      have hf := zIf_s hf
      refine zr_icmp_ge (pc := 36) (tgt := 80) h dX8_countHosts_36 rfl (fun b13 => ?_) (fun b13 => ?_)
      · have hf := hf.1 b13
        refine zr_iload (pc := 80) h dX8_countHosts_80 rfl ?_
        exact zr_iret (pc := 82) h dX8_countHosts_82 (zRi hf) rfl
      · have hf := hf.2 b13
        refine zr_aload_n (pc := 39) h dX8_countHosts_39 rfl rfl ?_
        refine zf_X8_9 (pc := 40) h gkc_264 dX8_countHosts_40 ?_
        refine zr_iload (pc := 43) h dX8_countHosts_43 rfl ?_
        obtain ⟨q3, hf⟩ := zCk_s hf
        refine zr_iald (pc := 45) h gkc_265 q3 rfl dX8_countHosts_45 ?_
        refine zr_iload_n (pc := 46) h dX8_countHosts_46 rfl rfl ?_
        have hf := zIf_s hf
        refine zr_icmp_ne (pc := 47) (tgt := 74) h dX8_countHosts_47 rfl (fun b12 => ?_) (fun b12 => ?_)
        · have hf := hf.2 b12
          refine zr_iincx (pc := 74) h dX8_countHosts_74 rfl (by decide) rfl (c := (1 : Int32)) (by decide) (fun x4 ex4 => ?_)
          have hf := zLt_s ex4 hf
          refine zr_goto (pc := 77) (tgt := 25) h dX8_countHosts_77 rfl ?_
          exact zr_weak h [true, false, true, true, true, true, true] (ih _ _ _ _ _ hf)
        · have hf := hf.1 b12
          refine zr_iload (pc := 50) h dX8_countHosts_50 rfl ?_
          refine zr_iload_n (pc := 52) h dX8_countHosts_52 rfl rfl ?_
          refine zr_iload (pc := 53) h dX8_countHosts_53 rfl ?_
          obtain ⟨q5, hf⟩ := zCk_s hf
          refine zr_idiv (pc := 55) h dX8_countHosts_55 (by simpa using q5) ?_
          refine zr_iload (pc := 56) h dX8_countHosts_56 rfl ?_
          refine zr_iload_n (pc := 58) h dX8_countHosts_58 rfl rfl ?_
          refine zr_iload (pc := 59) h dX8_countHosts_59 rfl ?_
          obtain ⟨q6, hf⟩ := zCk_s hf
          refine zr_irem (pc := 61) h dX8_countHosts_61 (by simpa using q6) ?_
          have hf := zIf_s hf
          refine zr_icmp_ge (pc := 62) (tgt := 69) h dX8_countHosts_62 rfl (fun b11 => ?_) (fun b11 => ?_)
          · have hf := hf.1 b11
            refine zr_iconst (pc := 69) (v := (0 : Int32)) h dX8_countHosts_69 (by decide) ?_
            refine zr_iadd (pc := 70) h dX8_countHosts_70 ?_
            refine zr_iadd (pc := 71) h dX8_countHosts_71 ?_
            refine zr_topi h (fun x7 ex7 => ?_)
            have hf := zLt_s ex7 hf
            refine zr_istore (pc := 72) h dX8_countHosts_72 (by decide) rfl ?_
            refine zr_iincx (pc := 74) h dX8_countHosts_74 rfl (by decide) rfl (c := (1 : Int32)) (by decide) (fun x8 ex8 => ?_)
            have hf := zLt_s ex8 hf
            refine zr_goto (pc := 77) (tgt := 25) h dX8_countHosts_77 rfl ?_
            exact zr_weak h [true, false, true, true, true, true, true] (ih _ _ _ _ _ hf)
          · have hf := hf.2 b11
            refine zr_iconst (pc := 65) (v := (1 : Int32)) h dX8_countHosts_65 (by decide) ?_
            refine zr_goto (pc := 66) (tgt := 70) h dX8_countHosts_66 rfl ?_
            refine zr_iadd (pc := 70) h dX8_countHosts_70 ?_
            refine zr_iadd (pc := 71) h dX8_countHosts_71 ?_
            refine zr_topi h (fun x9 ex9 => ?_)
            have hf := zLt_s ex9 hf
            refine zr_istore (pc := 72) h dX8_countHosts_72 (by decide) rfl ?_
            refine zr_iincx (pc := 74) h dX8_countHosts_74 rfl (by decide) rfl (c := (1 : Int32)) (by decide) (fun x10 ex10 => ?_)
            have hf := zLt_s ex10 hf
            refine zr_goto (pc := 77) (tgt := 25) h dX8_countHosts_77 rfl ?_
            exact zr_weak h [true, false, true, true, true, true, true] (ih _ _ _ _ _ hf)

set_option maxRecDepth 100000 in
set_option maxHeartbeats 4000000 in
theorem cX8_countHosts_ok {l : Launch} {g : gG} {a1 : Int32} {a2 : Int32} {a3 : Int32} {μ : gM} {r : Int32} (hf : fX8_countHosts a1 a2 a3 μ = some r) : gMet l g yX8_countHosts cX8_countHosts 7 (some .int) 0 0 [.ref (g.1 + 264), .int a1, .int a2, .int a3] μ (some (.int r)) μ := by
  refine gMet_of (gIni [.ref (g.1 + 264), .int a1, .int a2, .int a3] ++ List.replicate 3 none) (by decide) (gIni_ok _ _) (Nat.le_of_ble_eq_true rfl) (fun K h => ?_)
  show K 0 [some (.ref (g.1 + 264)), some (.int a1), some (.int a2), some (.int a3), none, none, none] [] μ
  unfold fX8_countHosts at hf
  refine zr_aload_n (pc := 0) h dX8_countHosts_0 rfl rfl ?_
  refine zf_X8_18 (pc := 1) h gkc_264 dX8_countHosts_1 ?_
  refine zf_X8_41 (pc := 4) h gkc_4 dX8_countHosts_4 ?_
  refine zr_iload_n (pc := 7) h dX8_countHosts_7 rfl rfl ?_
  obtain ⟨q1, hf⟩ := zCk_s hf
  refine zr_iald (pc := 8) h gkc_10 q1 rfl dX8_countHosts_8 ?_
  refine zr_topi h (fun x2 ex2 => ?_)
  have hf := zLt_s ex2 hf
  refine zr_istore (pc := 9) h dX8_countHosts_9 (by decide) rfl ?_
  refine zr_iload (pc := 11) h dX8_countHosts_11 rfl ?_
  refine zr_iconst (pc := 13) (v := (1 : Int32)) h dX8_countHosts_13 (by decide) ?_
  have hf := zIf_s hf
  refine zr_icmp_ge (pc := 14) (tgt := 19) h dX8_countHosts_14 rfl (fun b15 => ?_) (fun b15 => ?_)
  · have hf := hf.1 b15
    refine zr_iconst (pc := 19) (v := (0 : Int32)) h dX8_countHosts_19 (by decide) ?_
    refine zr_istore (pc := 20) h dX8_countHosts_20 (by decide) rfl ?_
    refine zr_iconst (pc := 22) (v := (0 : Int32)) h dX8_countHosts_22 (by decide) ?_
    refine zr_istore (pc := 23) h dX8_countHosts_23 (by decide) rfl ?_
    exact zr_weak h [true, false, true, true, true, true, true] (fX8_countHosts_l25_ok h 100000 _ _ _ _ _ hf)
  · have hf := hf.2 b15
    refine zr_iconst (pc := 17) (v := (0 : Int32)) h dX8_countHosts_17 (by decide) ?_
    exact zr_iret (pc := 18) h dX8_countHosts_18 (zRi hf) rfl

