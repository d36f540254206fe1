set_option maxRecDepth 100000 in
set_option maxHeartbeats 4000000 in
theorem cX11_feed_ok {l : Launch} {g : gG} {a1 : Int32} {a2 : Int32} {a3 : Int32} {a4 : Int32} {a5 : Int32} {μ : gM} {r : Int32} {ν : gM} (hf : fX11_feed a1 a2 a3 a4 a5 μ = some (r, ν)) : gMet l g yX11_feed cX11_feed 6 (some .int) 1 22 [.ref (g.1 + 0), .int a1, .int a2, .int a3, .int a4, .int a5] μ (some (.int r)) ν := by
  refine gMet_of (gIni [.ref (g.1 + 0), .int a1, .int a2, .int a3, .int a4, .int a5] ++ List.replicate 0 none) (by decide) (gIni_ok _ _) (Nat.le_of_ble_eq_true rfl) (fun K h => ?_)
  show K 0 [some (.ref (g.1 + 0)), some (.int a1), some (.int a2), some (.int a3), some (.int a4), some (.int a5)] [] μ
  unfold fX11_feed at hf
  refine zr_aload_n (pc := 0) h dX11_feed_0 rfl rfl ?_
  refine zf_X11_10 (pc := 1) h gkc_0 dX11_feed_1 ?_
  refine zf_X11_78 (pc := 4) h gkc_1 dX11_feed_4 ?_
  refine zr_bipush (pc := 7) (v := (20 : Int32)) h dX11_feed_7 (by decide) ?_
  refine zr_iadd (pc := 9) h dX11_feed_9 ?_
  refine zr_sipush (pc := 10) (v := (1500 : Int32)) h dX11_feed_10 (by decide) ?_
  have hf := zIf_s hf
  refine zr_icmp_le (pc := 13) (tgt := 18) h dX11_feed_13 rfl (fun b6 => ?_) (fun b6 => ?_)
  · have hf := hf.1 b6
    refine zr_aload_n (pc := 18) h dX11_feed_18 rfl rfl ?_
    refine zf_X11_10 (pc := 19) h gkc_0 dX11_feed_19 ?_
    refine zr_iload_n (pc := 22) h dX11_feed_22 rfl rfl ?_
    obtain ⟨μ1, eμ1, hf⟩ := zBd_s hf
    refine zm_X11_82 (pc := 23) h gkc_1 ⟨by decide, by decide⟩ (cX7_append_ok eμ1) rfl (Nat.le_of_ble_eq_true rfl) dX11_feed_23 rfl ?_
    refine zr_aload_n (pc := 26) h dX11_feed_26 rfl rfl ?_
    refine zf_X11_10 (pc := 27) h gkc_0 dX11_feed_27 ?_
    refine zr_iload_n (pc := 30) h dX11_feed_30 rfl rfl ?_
    obtain ⟨μ2, eμ2, hf⟩ := zBd_s hf
    refine zm_X11_82 (pc := 31) h gkc_1 ⟨by decide, by decide⟩ (cX7_append_ok eμ2) rfl (Nat.le_of_ble_eq_true rfl) dX11_feed_31 rfl ?_
    refine zr_aload_n (pc := 34) h dX11_feed_34 rfl rfl ?_
    refine zf_X11_10 (pc := 35) h gkc_0 dX11_feed_35 ?_
    refine zr_iload_n (pc := 38) h dX11_feed_38 rfl rfl ?_
    obtain ⟨μ3, eμ3, hf⟩ := zBd_s hf
    refine zm_X11_82 (pc := 39) h gkc_1 ⟨by decide, by decide⟩ (cX7_append_ok eμ3) rfl (Nat.le_of_ble_eq_true rfl) dX11_feed_39 rfl ?_
    refine zr_aload_n (pc := 42) h dX11_feed_42 rfl rfl ?_
    refine zf_X11_10 (pc := 43) h gkc_0 dX11_feed_43 ?_
    refine zr_iload (pc := 46) h dX11_feed_46 rfl ?_
    obtain ⟨μ4, eμ4, hf⟩ := zBd_s hf
    refine zm_X11_82 (pc := 48) h gkc_1 ⟨by decide, by decide⟩ (cX7_append_ok eμ4) rfl (Nat.le_of_ble_eq_true rfl) dX11_feed_48 rfl ?_
    refine zr_aload_n (pc := 51) h dX11_feed_51 rfl rfl ?_
    refine zf_X11_10 (pc := 52) h gkc_0 dX11_feed_52 ?_
    refine zr_iload (pc := 55) h dX11_feed_55 rfl ?_
    obtain ⟨μ5, eμ5, hf⟩ := zBd_s hf
    refine zm_X11_82 (pc := 57) h gkc_1 ⟨by decide, by decide⟩ (cX7_append_ok eμ5) rfl (Nat.le_of_ble_eq_true rfl) dX11_feed_57 rfl ?_
    refine zr_aload_n (pc := 60) h dX11_feed_60 rfl rfl ?_
    refine zf_X11_10 (pc := 61) h gkc_0 dX11_feed_61 ?_
    refine zf_X11_78 (pc := 64) h gkc_1 dX11_feed_64 ?_
    exact zr_iret (pc := 67) h dX11_feed_67 (zRp hf).1 (zRp hf).2
  · have hf := hf.2 b6
    refine zr_iconst (pc := 16) (v := (-1 : Int32)) h dX11_feed_16 (by decide) ?_
    exact zr_iret (pc := 17) h dX11_feed_17 (zRp hf).1 (zRp hf).2

set_option maxRecDepth 100000 in
set_option maxHeartbeats 4000000 in
theorem cX11_end_ok {l : Launch} {g : gG} {a1 : Int32} {μ : gM} {r : Int32} {ν : gM} (hf : fX11_end a1 μ = some (r, ν)) : gMet l g yX11_end cX11_end 2 (some .boolean) 0 0 [.ref (g.1 + 0), .int a1] μ (some (.int r)) ν := by
  refine gMet_of (gIni [.ref (g.1 + 0), .int a1] ++ List.replicate 0 none) (by decide) (gIni_ok _ _) (Nat.le_of_ble_eq_true rfl) (fun K h => ?_)
  show K 0 [some (.ref (g.1 + 0)), some (.int a1)] [] μ
  unfold fX11_end at hf
  refine zr_iload_n (pc := 0) h dX11_end_0 rfl rfl ?_
  have hf := zIf_s hf
  refine zr_if_lt (pc := 1) (tgt := 15) h dX11_end_1 rfl (fun b3 => ?_) (fun b3 => ?_)
  · have hf := hf.1 b3
    refine zr_iconst (pc := 15) (v := (0 : Int32)) h dX11_end_15 (by decide) ?_
    exact zr_zret (pc := 16) h rfl dX11_end_16 (zRp hf).1 (zRp hf).2
  · have hf := hf.2 b3
    refine zr_iload_n (pc := 4) h dX11_end_4 rfl rfl ?_
    refine zr_aload_n (pc := 5) h dX11_end_5 rfl rfl ?_
    refine zf_X11_10 (pc := 6) h gkc_0 dX11_end_6 ?_
    refine zf_X11_78 (pc := 9) h gkc_1 dX11_end_9 ?_
    have hf := zIf_s hf
    refine zr_icmp_le (pc := 12) (tgt := 17) h dX11_end_12 rfl (fun b2 => ?_) (fun b2 => ?_)
    · have hf := hf.1 b2
      refine zr_aload_n (pc := 17) h dX11_end_17 rfl rfl ?_
      refine zf_X11_10 (pc := 18) h gkc_0 dX11_end_18 ?_
      refine zr_iload_n (pc := 21) h dX11_end_21 rfl rfl ?_
      refine zp_X11_78 (pc := 22) h gkc_1 dX11_end_22 ?_
      refine zr_mu h (fun μ1 eμ1 => ?_)
      have hf := zLt_s eμ1 hf
      refine zr_iconst (pc := 25) (v := (1 : Int32)) h dX11_end_25 (by decide) ?_
      exact zr_zret (pc := 26) h rfl dX11_end_26 (zRp hf).1 (zRp hf).2
    · have hf := hf.2 b2
      refine zr_iconst (pc := 15) (v := (0 : Int32)) h dX11_end_15 (by decide) ?_
      exact zr_zret (pc := 16) h rfl dX11_end_16 (zRp hf).1 (zRp hf).2

set_option maxRecDepth 100000 in
set_option maxHeartbeats 4000000 in
theorem cX11_net_ok {l : Launch} {g : gG} {μ : gM} {r : Int32} {ν : gM} (hf : fX11_net μ = some (r, ν)) : gMet l g yX11_net cX11_net 2 (some .int) 7 159 [.ref (g.1 + 0)] μ (some (.int r)) ν := by
  refine gMet_of (gIni [.ref (g.1 + 0)] ++ List.replicate 1 none) (by decide) (gIni_ok _ _) (Nat.le_of_ble_eq_true rfl) (fun K h => ?_)
  show K 0 [some (.ref (g.1 + 0)), none] [] μ
  unfold fX11_net at hf
  refine zr_aload_n (pc := 0) h dX11_net_0 rfl rfl ?_
  refine zf_X11_28 (pc := 1) h gkc_0 dX11_net_1 ?_
  obtain ⟨x1, μ2, ex1, hf⟩ := zBp_s hf
  refine zm_X11_86 (pc := 4) h gkc_17 ⟨by decide, by decide⟩ (cX2_read_ok ex1) rfl (Nat.le_of_ble_eq_true rfl) dX11_net_4 rfl ?_
  refine zr_istore_n (pc := 7) h dX11_net_7 rfl (by decide) rfl ?_
  refine zr_aload_n (pc := 8) h dX11_net_8 rfl rfl ?_
  refine zf_X11_10 (pc := 9) h gkc_0 dX11_net_9 ?_
  refine zr_iconst (pc := 12) (v := (0 : Int32)) h dX11_net_12 (by decide) ?_
  refine zp_X11_78 (pc := 13) h gkc_1 dX11_net_13 ?_
  refine zr_mu h (fun μ3 eμ3 => ?_)
  have hf := zLt_s eμ3 hf
  refine zr_iload_n (pc := 16) h dX11_net_16 rfl rfl ?_
  have hf := zIf_s hf
  refine zr_if_ne (pc := 17) (tgt := 22) h dX11_net_17 rfl (fun b8 => ?_) (fun b8 => ?_)
  · have hf := hf.2 b8
    refine zr_aload_n (pc := 22) h dX11_net_22 rfl rfl ?_
    refine zf_X11_19 (pc := 23) h gkc_0 dX11_net_23 ?_
    refine zr_aload_n (pc := 26) h dX11_net_26 rfl rfl ?_
    refine zf_X11_28 (pc := 27) h gkc_0 dX11_net_27 ?_
    refine zf_X11_90 (pc := 30) h gkc_17 dX11_net_30 ?_
    obtain ⟨μ4, eμ4, hf⟩ := zBd_s hf
    refine zm_X11_93 (pc := 33) h gkc_4 ⟨by decide, by decide⟩ (cX1_copyFrom_ok gkc_4 gkc_18 eμ4) rfl (Nat.le_of_ble_eq_true rfl) dX11_net_33 rfl ?_
    refine zr_aload_n (pc := 36) h dX11_net_36 rfl rfl ?_
    refine zf_X11_19 (pc := 37) h gkc_0 dX11_net_37 ?_
    refine zr_iconst (pc := 40) (v := (1 : Int32)) h dX11_net_40 (by decide) ?_
    refine zp_X11_97 (pc := 41) h gkc_4 rfl rfl dX11_net_41 ?_
    refine zr_mu h (fun μ5 eμ5 => ?_)
    have hf := zLt_s eμ5 hf
    refine zr_aload_n (pc := 44) h dX11_net_44 rfl rfl ?_
    refine zf_X11_60 (pc := 45) h gkc_0 dX11_net_45 ?_
    obtain ⟨μ6, eμ6, hf⟩ := zBd_s hf
    refine zm_X11_101 (pc := 48) h gkc_49 ⟨by decide, by decide⟩ (cX4_forgetAll_ok eμ6) rfl (Nat.le_of_ble_eq_true rfl) dX11_net_48 rfl ?_
    refine zr_aload_n (pc := 51) h dX11_net_51 rfl rfl ?_
    refine zf_X11_53 (pc := 52) h gkc_0 dX11_net_52 ?_
    obtain ⟨μ7, eμ7, hf⟩ := zBd_s hf
    refine zm_X11_104 (pc := 55) h gkc_48 ⟨by decide, by decide⟩ (cX10_begin_ok gkc_48 eμ7) rfl (Nat.le_of_ble_eq_true rfl) dX11_net_55 rfl ?_
    refine zr_aload_n (pc := 58) h dX11_net_58 rfl rfl ?_
    refine zf_X11_19 (pc := 59) h gkc_0 dX11_net_59 ?_
    refine zf_X11_107 (pc := 62) h gkc_4 dX11_net_62 ?_
    refine zr_iconst (pc := 65) (v := (2 : Int32)) h dX11_net_65 (by decide) ?_
    refine zr_iald (pc := 66) (q := 2) h gkc_5 rfl (by decide) dX11_net_66 ?_
    exact zr_iret (pc := 67) h dX11_net_67 (zRp hf).1 (zRp hf).2
  · have hf := hf.1 b8
    refine zr_iconst (pc := 20) (v := (-1 : Int32)) h dX11_net_20 (by decide) ?_
    exact zr_iret (pc := 21) h dX11_net_21 (zRp hf).1 (zRp hf).2

set_option maxRecDepth 100000 in
set_option maxHeartbeats 4000000 in
theorem cX11_plan_ok {l : Launch} {g : gG} {μ : gM} {r : Int32} {ν : gM} (hf : fX11_plan μ = some (r, ν)) : gMet l g yX11_plan cX11_plan 2 (some .int) 7 158 [.ref (g.1 + 0)] μ (some (.int r)) ν := by
  refine gMet_of (gIni [.ref (g.1 + 0)] ++ List.replicate 1 none) (by decide) (gIni_ok _ _) (Nat.le_of_ble_eq_true rfl) (fun K h => ?_)
  show K 0 [some (.ref (g.1 + 0)), none] [] μ
  unfold fX11_plan at hf
  refine zr_aload_n (pc := 0) h dX11_plan_0 rfl rfl ?_
  refine zf_X11_19 (pc := 1) h gkc_0 dX11_plan_1 ?_
  refine zf_X11_97 (pc := 4) h gkc_4 dX11_plan_4 ?_
  have hf := zIf_s hf
  refine zr_if_ne (pc := 7) (tgt := 21) h dX11_plan_7 rfl (fun b10 => ?_) (fun b10 => ?_)
  · have hf := hf.2 b10
    refine zr_aload_n (pc := 21) h dX11_plan_21 rfl rfl ?_
    refine zf_X11_37 (pc := 22) h gkc_0 dX11_plan_22 ?_
    obtain ⟨x1, μ2, ex1, hf⟩ := zBp_s hf
    refine zm_X11_111 (pc := 25) h gkc_31 ⟨by decide, by decide⟩ (cX6_read_ok ex1) rfl (Nat.le_of_ble_eq_true rfl) dX11_plan_25 rfl ?_
    refine zr_istore_n (pc := 28) h dX11_plan_28 rfl (by decide) rfl ?_
    refine zr_aload_n (pc := 29) h dX11_plan_29 rfl rfl ?_
    refine zf_X11_10 (pc := 30) h gkc_0 dX11_plan_30 ?_
    refine zr_iconst (pc := 33) (v := (0 : Int32)) h dX11_plan_33 (by decide) ?_
    refine zp_X11_78 (pc := 34) h gkc_1 dX11_plan_34 ?_
    refine zr_mu h (fun μ3 eμ3 => ?_)
    have hf := zLt_s eμ3 hf
    refine zr_iload_n (pc := 37) h dX11_plan_37 rfl rfl ?_
    have hf := zIf_s hf
    refine zr_if_ne (pc := 38) (tgt := 43) h dX11_plan_38 rfl (fun b8 => ?_) (fun b8 => ?_)
    · have hf := hf.2 b8
      refine zr_aload_n (pc := 43) h dX11_plan_43 rfl rfl ?_
      refine zf_X11_60 (pc := 44) h gkc_0 dX11_plan_44 ?_
      refine zr_aload_n (pc := 47) h dX11_plan_47 rfl rfl ?_
      refine zf_X11_44 (pc := 48) h gkc_0 dX11_plan_48 ?_
      obtain ⟨μ4, eμ4, hf⟩ := zBd_s hf
      refine zm_X11_112 (pc := 51) h gkc_49 ⟨by decide, by decide⟩ (cX4_save_ok gkc_34 eμ4) rfl (Nat.le_of_ble_eq_true rfl) dX11_plan_51 rfl ?_
      refine zr_aload_n (pc := 54) h dX11_plan_54 rfl rfl ?_
      refine zf_X11_44 (pc := 55) h gkc_0 dX11_plan_55 ?_
      refine zf_X11_116 (pc := 58) h gkc_34 dX11_plan_58 ?_
      refine zr_aload_n (pc := 61) h dX11_plan_61 rfl rfl ?_
      refine zf_X11_37 (pc := 62) h gkc_0 dX11_plan_62 ?_
      refine zf_X11_120 (pc := 65) h gkc_31 dX11_plan_65 ?_
      obtain ⟨μ5, eμ5, hf⟩ := zBd_s hf
      refine zm_X11_122 (pc := 68) h gkc_35 ⟨by decide, by decide⟩ (cX5_copyFrom_ok gkc_35 gkc_32 eμ5) rfl (Nat.le_of_ble_eq_true rfl) dX11_plan_68 rfl ?_
      refine zr_aload_n (pc := 71) h dX11_plan_71 rfl rfl ?_
      refine zf_X11_44 (pc := 72) h gkc_0 dX11_plan_72 ?_
      refine zr_aload_n (pc := 75) h dX11_plan_75 rfl rfl ?_
      refine zf_X11_44 (pc := 76) h gkc_0 dX11_plan_76 ?_
      refine zf_X11_116 (pc := 79) h gkc_34 dX11_plan_79 ?_
      refine zr_aload_n (pc := 82) h dX11_plan_82 rfl rfl ?_
      refine zf_X11_44 (pc := 83) h gkc_0 dX11_plan_83 ?_
      refine zf_X11_127 (pc := 86) h gkc_34 dX11_plan_86 ?_
      obtain ⟨x6, ex6, hf⟩ := zBd_s hf
      refine zm_X11_130 (pc := 89) h gkc_35 ⟨by decide, by decide⟩ (cX5_firstFrom_ok gkc_35 ex6) rfl (Nat.le_of_ble_eq_true rfl) dX11_plan_89 rfl ?_
      refine zp_X11_134 (pc := 92) h gkc_34 dX11_plan_92 ?_
      refine zr_mu h (fun μ7 eμ7 => ?_)
      have hf := zLt_s eμ7 hf
      refine zr_aload_n (pc := 95) h dX11_plan_95 rfl rfl ?_
      refine zf_X11_44 (pc := 96) h gkc_0 dX11_plan_96 ?_
      refine zf_X11_116 (pc := 99) h gkc_34 dX11_plan_99 ?_
      refine zf_X11_137 (pc := 102) h gkc_35 dX11_plan_102 ?_
      exact zr_iret (pc := 105) h dX11_plan_105 (zRp hf).1 (zRp hf).2
    · have hf := hf.1 b8
      refine zr_iconst (pc := 41) (v := (-1 : Int32)) h dX11_plan_41 (by decide) ?_
      exact zr_iret (pc := 42) h dX11_plan_42 (zRp hf).1 (zRp hf).2
  · have hf := hf.1 b10
    refine zr_aload_n (pc := 10) h dX11_plan_10 rfl rfl ?_
    refine zf_X11_10 (pc := 11) h gkc_0 dX11_plan_11 ?_
    refine zr_iconst (pc := 14) (v := (0 : Int32)) h dX11_plan_14 (by decide) ?_
    refine zp_X11_78 (pc := 15) h gkc_1 dX11_plan_15 ?_
    refine zr_mu h (fun μ9 eμ9 => ?_)
    have hf := zLt_s eμ9 hf
    refine zr_bipush (pc := 18) (v := (-2 : Int32)) h dX11_plan_18 (by decide) ?_
    exact zr_iret (pc := 20) h dX11_plan_20 (zRp hf).1 (zRp hf).2

set_option maxRecDepth 100000 in
set_option maxHeartbeats 4000000 in
theorem cX11_fault_ok {l : Launch} {g : gG} {a1 : Int32} {μ : gM} {r : Int32} (hf : fX11_fault a1 μ = some r) : gMet l g yX11_fault cX11_fault 2 (some .int) 0 0 [.ref (g.1 + 0), .int a1] μ (some (.int r)) μ := by
  refine gMet_of (gIni [.ref (g.1 + 0), .int a1] ++ List.replicate 0 none) (by decide) (gIni_ok _ _) (Nat.le_of_ble_eq_true rfl) (fun K h => ?_)
  show K 0 [some (.ref (g.1 + 0)), some (.int a1)] [] μ
  unfold fX11_fault at hf
  refine zr_iload_n (pc := 0) h dX11_fault_0 rfl rfl ?_
  have hf := zIf_s hf
  refine zr_if_ne (pc := 1) (tgt := 12) h dX11_fault_1 rfl (fun b2 => ?_) (fun b2 => ?_)
  · have hf := hf.2 b2
    refine zr_iload_n (pc := 12) h dX11_fault_12 rfl rfl ?_
    refine zr_iconst (pc := 13) (v := (1 : Int32)) h dX11_fault_13 (by decide) ?_
    have hf := zIf_s hf
    refine zr_icmp_ne (pc := 14) (tgt := 27) h dX11_fault_14 rfl (fun b1 => ?_) (fun b1 => ?_)
    · have hf := hf.2 b1
      refine zr_iconst (pc := 27) (v := (-1 : Int32)) h dX11_fault_27 (by decide) ?_
      exact zr_iret (pc := 28) h dX11_fault_28 (zRi hf) rfl
    · have hf := hf.1 b1
      refine zr_aload_n (pc := 17) h dX11_fault_17 rfl rfl ?_
      refine zf_X11_10 (pc := 18) h gkc_0 dX11_fault_18 ?_
      refine zf_X11_143 (pc := 21) h gkc_1 dX11_fault_21 ?_
      refine zr_goto (pc := 24) (tgt := 28) h dX11_fault_24 rfl ?_
      exact zr_iret (pc := 28) h dX11_fault_28 (zRi hf) rfl
  · have hf := hf.1 b2
    refine zr_aload_n (pc := 4) h dX11_fault_4 rfl rfl ?_
    refine zf_X11_10 (pc := 5) h gkc_0 dX11_fault_5 ?_
    refine zf_X11_140 (pc := 8) h gkc_1 dX11_fault_8 ?_
    exact zr_iret (pc := 11) h dX11_fault_11 (zRi hf) rfl

set_option maxRecDepth 100000 in
set_option maxHeartbeats 4000000 in
theorem cX11_has_ok {l : Launch} {g : gG} {a1 : Int32} {μ : gM} {r : Int32} (hf : fX11_has a1 μ = some r) : gMet l g yX11_has cX11_has 2 (some .int) 2 42 [.ref (g.1 + 0), .int a1] μ (some (.int r)) μ := by
  refine gMet_of (gIni [.ref (g.1 + 0), .int a1] ++ List.replicate 0 none) (by decide) (gIni_ok _ _) (Nat.le_of_ble_eq_true rfl) (fun K h => ?_)
  show K 0 [some (.ref (g.1 + 0)), some (.int a1)] [] μ
  unfold fX11_has at hf
  refine zr_aload_n (pc := 0) h dX11_has_0 rfl rfl ?_
  refine zf_X11_19 (pc := 1) h gkc_0 dX11_has_1 ?_
  refine zf_X11_97 (pc := 4) h gkc_4 dX11_has_4 ?_
  have hf := zIf_s hf
  refine zr_if_ne (pc := 7) (tgt := 12) h dX11_has_7 rfl (fun b18 => ?_) (fun b18 => ?_)
  · have hf := hf.2 b18
    refine zr_iload_n (pc := 12) h dX11_has_12 rfl rfl ?_
    have hf := zIf_s hf
    rcases Decidable.em (a1 = (0 : Int32)) with b1 | b1
    · have hf := hf.1 b1
      refine zr_tabIn (pc := 13) (tgt := 92) h dX11_has_13 (by rw [b1]; decide) (by rw [b1]; decide) (off := 79) (by rw [b1]; rfl) rfl ?_
      refine zr_aload_n (pc := 92) h dX11_has_92 rfl rfl ?_
      refine zf_X11_19 (pc := 93) h gkc_0 dX11_has_93 ?_
      refine zf_X11_107 (pc := 96) h gkc_4 dX11_has_96 ?_
      refine zr_iconst (pc := 99) (v := (0 : Int32)) h dX11_has_99 (by decide) ?_
      refine zr_iald (pc := 100) (q := 0) h gkc_5 rfl (by decide) dX11_has_100 ?_
      exact zr_iret (pc := 101) h dX11_has_101 (zRi hf) rfl
    · have hf := hf.2 b1
      have hf := zIf_s hf
      rcases Decidable.em (a1 = (1 : Int32)) with b2 | b2
      · have hf := hf.1 b2
        refine zr_tabIn (pc := 13) (tgt := 102) h dX11_has_13 (by rw [b2]; decide) (by rw [b2]; decide) (off := 89) (by rw [b2]; rfl) rfl ?_
        refine zr_aload_n (pc := 102) h dX11_has_102 rfl rfl ?_
        refine zf_X11_19 (pc := 103) h gkc_0 dX11_has_103 ?_
        refine zf_X11_107 (pc := 106) h gkc_4 dX11_has_106 ?_
        refine zr_iconst (pc := 109) (v := (1 : Int32)) h dX11_has_109 (by decide) ?_
        refine zr_iald (pc := 110) (q := 1) h gkc_5 rfl (by decide) dX11_has_110 ?_
        exact zr_iret (pc := 111) h dX11_has_111 (zRi hf) rfl
      · have hf := hf.2 b2
        have hf := zIf_s hf
        rcases Decidable.em (a1 = (2 : Int32)) with b3 | b3
        · have hf := hf.1 b3
          refine zr_tabIn (pc := 13) (tgt := 112) h dX11_has_13 (by rw [b3]; decide) (by rw [b3]; decide) (off := 99) (by rw [b3]; rfl) rfl ?_
          refine zr_aload_n (pc := 112) h dX11_has_112 rfl rfl ?_
          refine zf_X11_19 (pc := 113) h gkc_0 dX11_has_113 ?_
          refine zf_X11_107 (pc := 116) h gkc_4 dX11_has_116 ?_
          refine zr_iconst (pc := 119) (v := (2 : Int32)) h dX11_has_119 (by decide) ?_
          refine zr_iald (pc := 120) (q := 2) h gkc_5 rfl (by decide) dX11_has_120 ?_
          exact zr_iret (pc := 121) h dX11_has_121 (zRi hf) rfl
        · have hf := hf.2 b3
          have hf := zIf_s hf
          rcases Decidable.em (a1 = (3 : Int32)) with b4 | b4
          · have hf := hf.1 b4
            refine zr_tabIn (pc := 13) (tgt := 122) h dX11_has_13 (by rw [b4]; decide) (by rw [b4]; decide) (off := 109) (by rw [b4]; rfl) rfl ?_
            refine zr_aload_n (pc := 122) h dX11_has_122 rfl rfl ?_
            refine zf_X11_19 (pc := 123) h gkc_0 dX11_has_123 ?_
            obtain ⟨x5, ex5, hf⟩ := zBd_s hf
            refine zm_X11_146 (pc := 126) h gkc_4 ⟨by decide, by decide⟩ (cX1_countMembers_ok gkc_4 ex5) rfl (Nat.le_of_ble_eq_true rfl) dX11_has_126 rfl ?_
            exact zr_iret (pc := 129) h dX11_has_129 (zRi hf) rfl
          · have hf := hf.2 b4
            have hf := zIf_s hf
            rcases Decidable.em (a1 = (4 : Int32)) with b6 | b6
            · have hf := hf.1 b6
              refine zr_tabIn (pc := 13) (tgt := 130) h dX11_has_13 (by rw [b6]; decide) (by rw [b6]; decide) (off := 117) (by rw [b6]; rfl) rfl ?_
              refine zr_aload_n (pc := 130) h dX11_has_130 rfl rfl ?_
              refine zf_X11_19 (pc := 131) h gkc_0 dX11_has_131 ?_
              refine zf_X11_150 (pc := 134) h gkc_4 dX11_has_134 ?_
              exact zr_iret (pc := 137) h dX11_has_137 (zRi hf) rfl
            · have hf := hf.2 b6
              have hf := zIf_s hf
              rcases Decidable.em (a1 = (5 : Int32)) with b7 | b7
              · have hf := hf.1 b7
                refine zr_tabIn (pc := 13) (tgt := 138) h dX11_has_13 (by rw [b7]; decide) (by rw [b7]; decide) (off := 125) (by rw [b7]; rfl) rfl ?_
                refine zr_aload_n (pc := 138) h dX11_has_138 rfl rfl ?_
                refine zf_X11_44 (pc := 139) h gkc_0 dX11_has_139 ?_
                refine zf_X11_127 (pc := 142) h gkc_34 dX11_has_142 ?_
                exact zr_iret (pc := 145) h dX11_has_145 (zRi hf) rfl
              · have hf := hf.2 b7
                have hf := zIf_s hf
                rcases Decidable.em (a1 = (6 : Int32)) with b8 | b8
                · have hf := hf.1 b8
                  refine zr_tabIn (pc := 13) (tgt := 146) h dX11_has_13 (by rw [b8]; decide) (by rw [b8]; decide) (off := 133) (by rw [b8]; rfl) rfl ?_
                  refine zr_aload_n (pc := 146) h dX11_has_146 rfl rfl ?_
                  refine zf_X11_44 (pc := 147) h gkc_0 dX11_has_147 ?_
                  refine zf_X11_153 (pc := 150) h gkc_34 dX11_has_150 ?_
                  exact zr_iret (pc := 153) h dX11_has_153 (zRi hf) rfl
                · have hf := hf.2 b8
                  have hf := zIf_s hf
                  rcases Decidable.em (a1 = (7 : Int32)) with b9 | b9
                  · have hf := hf.1 b9
                    refine zr_tabIn (pc := 13) (tgt := 154) h dX11_has_13 (by rw [b9]; decide) (by rw [b9]; decide) (off := 141) (by rw [b9]; rfl) rfl ?_
                    refine zr_aload_n (pc := 154) h dX11_has_154 rfl rfl ?_
                    refine zf_X11_44 (pc := 155) h gkc_0 dX11_has_155 ?_
                    refine zf_X11_156 (pc := 158) h gkc_34 dX11_has_158 ?_
                    exact zr_iret (pc := 161) h dX11_has_161 (zRi hf) rfl
                  · have hf := hf.2 b9
                    have hf := zIf_s hf
                    rcases Decidable.em (a1 = (8 : Int32)) with b10 | b10
                    · have hf := hf.1 b10
                      refine zr_tabIn (pc := 13) (tgt := 162) h dX11_has_13 (by rw [b10]; decide) (by rw [b10]; decide) (off := 149) (by rw [b10]; rfl) rfl ?_
                      refine zr_aload_n (pc := 162) h dX11_has_162 rfl rfl ?_
                      refine zf_X11_44 (pc := 163) h gkc_0 dX11_has_163 ?_
                      refine zf_X11_159 (pc := 166) h gkc_34 dX11_has_166 ?_
                      exact zr_iret (pc := 169) h dX11_has_169 (zRi hf) rfl
                    · have hf := hf.2 b10
                      have hf := zIf_s hf
                      rcases Decidable.em (a1 = (9 : Int32)) with b11 | b11
                      · have hf := hf.1 b11
                        refine zr_tabIn (pc := 13) (tgt := 170) h dX11_has_13 (by rw [b11]; decide) (by rw [b11]; decide) (off := 157) (by rw [b11]; rfl) rfl ?_
                        refine zr_aload_n (pc := 170) h dX11_has_170 rfl rfl ?_
                        refine zf_X11_44 (pc := 171) h gkc_0 dX11_has_171 ?_
                        refine zf_X11_162 (pc := 174) h gkc_34 dX11_has_174 ?_
                        exact zr_iret (pc := 177) h dX11_has_177 (zRi hf) rfl
                      · have hf := hf.2 b11
                        have hf := zIf_s hf
                        rcases Decidable.em (a1 = (10 : Int32)) with b12 | b12
                        · have hf := hf.1 b12
                          refine zr_tabIn (pc := 13) (tgt := 178) h dX11_has_13 (by rw [b12]; decide) (by rw [b12]; decide) (off := 165) (by rw [b12]; rfl) rfl ?_
                          refine zr_aload_n (pc := 178) h dX11_has_178 rfl rfl ?_
                          refine zf_X11_44 (pc := 179) h gkc_0 dX11_has_179 ?_
                          refine zf_X11_165 (pc := 182) h gkc_34 dX11_has_182 ?_
                          exact zr_iret (pc := 185) h dX11_has_185 (zRi hf) rfl
                        · have hf := hf.2 b12
                          have hf := zIf_s hf
                          rcases Decidable.em (a1 = (11 : Int32)) with b13 | b13
                          · have hf := hf.1 b13
                            refine zr_tabIn (pc := 13) (tgt := 186) h dX11_has_13 (by rw [b13]; decide) (by rw [b13]; decide) (off := 173) (by rw [b13]; rfl) rfl ?_
                            refine zr_aload_n (pc := 186) h dX11_has_186 rfl rfl ?_
                            refine zf_X11_44 (pc := 187) h gkc_0 dX11_has_187 ?_
                            refine zf_X11_116 (pc := 190) h gkc_34 dX11_has_190 ?_
                            refine zf_X11_137 (pc := 193) h gkc_35 dX11_has_193 ?_
                            exact zr_iret (pc := 196) h dX11_has_196 (zRi hf) rfl
                          · have hf := hf.2 b13
                            have hf := zIf_s hf
                            rcases Decidable.em (a1 = (12 : Int32)) with b14 | b14
                            · have hf := hf.1 b14
                              refine zr_tabIn (pc := 13) (tgt := 197) h dX11_has_13 (by rw [b14]; decide) (by rw [b14]; decide) (off := 184) (by rw [b14]; rfl) rfl ?_
                              refine zr_aload_n (pc := 197) h dX11_has_197 rfl rfl ?_
                              refine zf_X11_44 (pc := 198) h gkc_0 dX11_has_198 ?_
                              refine zf_X11_168 (pc := 201) h gkc_34 dX11_has_201 ?_
                              refine zf_X11_172 (pc := 204) h gkc_37 dX11_has_204 ?_
                              exact zr_iret (pc := 207) h dX11_has_207 (zRi hf) rfl
                            · have hf := hf.2 b14
                              have hf := zIf_s hf
                              rcases Decidable.em (a1 = (13 : Int32)) with b15 | b15
                              · have hf := hf.1 b15
                                refine zr_tabIn (pc := 13) (tgt := 208) h dX11_has_13 (by rw [b15]; decide) (by rw [b15]; decide) (off := 195) (by rw [b15]; rfl) rfl ?_
                                refine zr_aload_n (pc := 208) h dX11_has_208 rfl rfl ?_
                                refine zf_X11_60 (pc := 209) h gkc_0 dX11_has_209 ?_
                                refine zf_X11_175 (pc := 212) h gkc_49 dX11_has_212 ?_
                                exact zr_iret (pc := 215) h dX11_has_215 (zRi hf) rfl
                              · have hf := hf.2 b15
                                have hf := zIf_s hf
                                rcases Decidable.em (a1 = (14 : Int32)) with b16 | b16
                                · have hf := hf.1 b16
                                  refine zr_tabIn (pc := 13) (tgt := 216) h dX11_has_13 (by rw [b16]; decide) (by rw [b16]; decide) (off := 203) (by rw [b16]; rfl) rfl ?_
                                  refine zr_aload_n (pc := 216) h dX11_has_216 rfl rfl ?_
                                  refine zf_X11_44 (pc := 217) h gkc_0 dX11_has_217 ?_
                                  refine zf_X11_176 (pc := 220) h gkc_34 dX11_has_220 ?_
                                  exact zr_iret (pc := 223) h dX11_has_223 (zRi hf) rfl
                                · have hf := hf.2 b16
                                  have hf := zIf_s hf
                                  rcases Decidable.em (a1 = (15 : Int32)) with b17 | b17
                                  · have hf := hf.1 b17
                                    refine zr_tabIn (pc := 13) (tgt := 224) h dX11_has_13 (by rw [b17]; decide) (by rw [b17]; decide) (off := 211) (by rw [b17]; rfl) rfl ?_
                                    refine zr_aload_n (pc := 224) h dX11_has_224 rfl rfl ?_
                                    refine zf_X11_44 (pc := 225) h gkc_0 dX11_has_225 ?_
                                    refine zf_X11_179 (pc := 228) h gkc_34 dX11_has_228 ?_
                                    exact zr_iret (pc := 231) h dX11_has_231 (zRi hf) rfl
                                  · have hf := hf.2 b17
                                    refine zr_tabOut (pc := 13) (tgt := 232) h dX11_has_13 (zTab_16 b1 b2 b3 b4 b6 b7 b8 b9 b10 b11 b12 b13 b14 b15 b16 b17) rfl ?_
                                    refine zr_iconst (pc := 232) (v := (-1 : Int32)) h dX11_has_232 (by decide) ?_
                                    exact zr_iret (pc := 233) h dX11_has_233 (zRi hf) rfl
  · have hf := hf.1 b18
    refine zr_iconst (pc := 10) (v := (-1 : Int32)) h dX11_has_10 (by decide) ?_
    exact zr_iret (pc := 11) h dX11_has_11 (zRi hf) rfl

set_option maxRecDepth 100000 in
set_option maxHeartbeats 4000000 in
theorem cX11_group_ok {l : Launch} {g : gG} {a1 : Int32} {a2 : Int32} {μ : gM} {r : Int32} (hf : fX11_group a1 a2 μ = some r) : gMet l g yX11_group cX11_group 3 (some .int) 1 21 [.ref (g.1 + 0), .int a1, .int a2] μ (some (.int r)) μ := by
  refine gMet_of (gIni [.ref (g.1 + 0), .int a1, .int a2] ++ List.replicate 0 none) (by decide) (gIni_ok _ _) (Nat.le_of_ble_eq_true rfl) (fun K h => ?_)
  show K 0 [some (.ref (g.1 + 0)), some (.int a1), some (.int a2)] [] μ
  unfold fX11_group at hf
  refine zr_aload_n (pc := 0) h dX11_group_0 rfl rfl ?_
  refine zf_X11_19 (pc := 1) h gkc_0 dX11_group_1 ?_
  refine zr_iload_n (pc := 4) h dX11_group_4 rfl rfl ?_
  obtain ⟨x1, ex1, hf⟩ := zBd_s hf
  refine zm_X11_182 (pc := 5) h gkc_4 ⟨by decide, by decide⟩ (cX1_isGroup_ok gkc_4 ex1) rfl (Nat.le_of_ble_eq_true rfl) dX11_group_5 rfl ?_
  have hf := zIf_s hf
  refine zr_if_ne (pc := 8) (tgt := 13) h dX11_group_8 rfl (fun b20 => ?_) (fun b20 => ?_)
  · have hf := hf.2 b20
    refine zr_iload_n (pc := 13) h dX11_group_13 rfl rfl ?_
    have hf := zIf_s hf
    rcases Decidable.em (a2 = (0 : Int32)) with b2 | b2
    · have hf := hf.1 b2
      refine zr_tabIn (pc := 14) (tgt := 64) h dX11_group_14 (by rw [b2]; decide) (by rw [b2]; decide) (off := 50) (by rw [b2]; rfl) rfl ?_
      refine zr_aload_n (pc := 64) h dX11_group_64 rfl rfl ?_
      refine zf_X11_19 (pc := 65) h gkc_0 dX11_group_65 ?_
      refine zf_X11_186 (pc := 68) h gkc_4 dX11_group_68 ?_
      refine zr_iload_n (pc := 71) h dX11_group_71 rfl rfl ?_
      obtain ⟨q3, hf⟩ := zCk_s hf
      refine zr_iald (pc := 72) h gkc_7 q3 rfl dX11_group_72 ?_
      exact zr_iret (pc := 73) h dX11_group_73 (zRi hf) rfl
    · have hf := hf.2 b2
      have hf := zIf_s hf
      rcases Decidable.em (a2 = (1 : Int32)) with b4 | b4
      · have hf := hf.1 b4
        refine zr_tabIn (pc := 14) (tgt := 74) h dX11_group_14 (by rw [b4]; decide) (by rw [b4]; decide) (off := 60) (by rw [b4]; rfl) rfl ?_
        refine zr_aload_n (pc := 74) h dX11_group_74 rfl rfl ?_
        refine zf_X11_19 (pc := 75) h gkc_0 dX11_group_75 ?_
        refine zf_X11_189 (pc := 78) h gkc_4 dX11_group_78 ?_
        refine zr_iload_n (pc := 81) h dX11_group_81 rfl rfl ?_
        obtain ⟨q5, hf⟩ := zCk_s hf
        refine zr_iald (pc := 82) h gkc_8 q5 rfl dX11_group_82 ?_
        exact zr_iret (pc := 83) h dX11_group_83 (zRi hf) rfl
      · have hf := hf.2 b4
        have hf := zIf_s hf
        rcases Decidable.em (a2 = (2 : Int32)) with b6 | b6
        · have hf := hf.1 b6
          refine zr_tabIn (pc := 14) (tgt := 84) h dX11_group_14 (by rw [b6]; decide) (by rw [b6]; decide) (off := 70) (by rw [b6]; rfl) rfl ?_
          refine zr_aload_n (pc := 84) h dX11_group_84 rfl rfl ?_
          refine zf_X11_19 (pc := 85) h gkc_0 dX11_group_85 ?_
          refine zf_X11_192 (pc := 88) h gkc_4 dX11_group_88 ?_
          refine zr_iload_n (pc := 91) h dX11_group_91 rfl rfl ?_
          obtain ⟨q7, hf⟩ := zCk_s hf
          refine zr_iald (pc := 92) h gkc_9 q7 rfl dX11_group_92 ?_
          exact zr_iret (pc := 93) h dX11_group_93 (zRi hf) rfl
        · have hf := hf.2 b6
          have hf := zIf_s hf
          rcases Decidable.em (a2 = (3 : Int32)) with b8 | b8
          · have hf := hf.1 b8
            refine zr_tabIn (pc := 14) (tgt := 94) h dX11_group_14 (by rw [b8]; decide) (by rw [b8]; decide) (off := 80) (by rw [b8]; rfl) rfl ?_
            refine zr_aload_n (pc := 94) h dX11_group_94 rfl rfl ?_
            refine zf_X11_19 (pc := 95) h gkc_0 dX11_group_95 ?_
            refine zf_X11_195 (pc := 98) h gkc_4 dX11_group_98 ?_
            refine zr_iload_n (pc := 101) h dX11_group_101 rfl rfl ?_
            obtain ⟨q9, hf⟩ := zCk_s hf
            refine zr_iald (pc := 102) h gkc_10 q9 rfl dX11_group_102 ?_
            exact zr_iret (pc := 103) h dX11_group_103 (zRi hf) rfl
          · have hf := hf.2 b8
            have hf := zIf_s hf
            rcases Decidable.em (a2 = (4 : Int32)) with b10 | b10
            · have hf := hf.1 b10
              refine zr_tabIn (pc := 14) (tgt := 104) h dX11_group_14 (by rw [b10]; decide) (by rw [b10]; decide) (off := 90) (by rw [b10]; rfl) rfl ?_
              refine zr_aload_n (pc := 104) h dX11_group_104 rfl rfl ?_
              refine zf_X11_19 (pc := 105) h gkc_0 dX11_group_105 ?_
              refine zf_X11_198 (pc := 108) h gkc_4 dX11_group_108 ?_
              refine zr_iload_n (pc := 111) h dX11_group_111 rfl rfl ?_
              obtain ⟨q11, hf⟩ := zCk_s hf
              refine zr_iald (pc := 112) h gkc_11 q11 rfl dX11_group_112 ?_
              exact zr_iret (pc := 113) h dX11_group_113 (zRi hf) rfl
            · have hf := hf.2 b10
              have hf := zIf_s hf
              rcases Decidable.em (a2 = (5 : Int32)) with b12 | b12
              · have hf := hf.1 b12
                refine zr_tabIn (pc := 14) (tgt := 114) h dX11_group_14 (by rw [b12]; decide) (by rw [b12]; decide) (off := 100) (by rw [b12]; rfl) rfl ?_
                refine zr_aload_n (pc := 114) h dX11_group_114 rfl rfl ?_
                refine zf_X11_44 (pc := 115) h gkc_0 dX11_group_115 ?_
                refine zf_X11_201 (pc := 118) h gkc_34 dX11_group_118 ?_
                refine zr_iload_n (pc := 121) h dX11_group_121 rfl rfl ?_
                obtain ⟨q13, hf⟩ := zCk_s hf
                refine zr_iald (pc := 122) h gkc_40 q13 rfl dX11_group_122 ?_
                exact zr_iret (pc := 123) h dX11_group_123 (zRi hf) rfl
              · have hf := hf.2 b12
                have hf := zIf_s hf
                rcases Decidable.em (a2 = (6 : Int32)) with b14 | b14
                · have hf := hf.1 b14
                  refine zr_tabIn (pc := 14) (tgt := 124) h dX11_group_14 (by rw [b14]; decide) (by rw [b14]; decide) (off := 110) (by rw [b14]; rfl) rfl ?_
                  refine zr_aload_n (pc := 124) h dX11_group_124 rfl rfl ?_
                  refine zf_X11_44 (pc := 125) h gkc_0 dX11_group_125 ?_
                  refine zf_X11_204 (pc := 128) h gkc_34 dX11_group_128 ?_
                  refine zr_iload_n (pc := 131) h dX11_group_131 rfl rfl ?_
                  obtain ⟨q15, hf⟩ := zCk_s hf
                  refine zr_iald (pc := 132) h gkc_41 q15 rfl dX11_group_132 ?_
                  exact zr_iret (pc := 133) h dX11_group_133 (zRi hf) rfl
                · have hf := hf.2 b14
                  have hf := zIf_s hf
                  rcases Decidable.em (a2 = (7 : Int32)) with b16 | b16
                  · have hf := hf.1 b16
                    refine zr_tabIn (pc := 14) (tgt := 134) h dX11_group_14 (by rw [b16]; decide) (by rw [b16]; decide) (off := 120) (by rw [b16]; rfl) rfl ?_
                    refine zr_aload_n (pc := 134) h dX11_group_134 rfl rfl ?_
                    refine zf_X11_44 (pc := 135) h gkc_0 dX11_group_135 ?_
                    refine zf_X11_207 (pc := 138) h gkc_34 dX11_group_138 ?_
                    refine zr_iload_n (pc := 141) h dX11_group_141 rfl rfl ?_
                    obtain ⟨q17, hf⟩ := zCk_s hf
                    refine zr_iald (pc := 142) h gkc_42 q17 rfl dX11_group_142 ?_
                    exact zr_iret (pc := 143) h dX11_group_143 (zRi hf) rfl
                  · have hf := hf.2 b16
                    have hf := zIf_s hf
                    rcases Decidable.em (a2 = (8 : Int32)) with b18 | b18
                    · have hf := hf.1 b18
                      refine zr_tabIn (pc := 14) (tgt := 144) h dX11_group_14 (by rw [b18]; decide) (by rw [b18]; decide) (off := 130) (by rw [b18]; rfl) rfl ?_
                      refine zr_aload_n (pc := 144) h dX11_group_144 rfl rfl ?_
                      refine zf_X11_44 (pc := 145) h gkc_0 dX11_group_145 ?_
                      refine zf_X11_210 (pc := 148) h gkc_34 dX11_group_148 ?_
                      refine zr_iload_n (pc := 151) h dX11_group_151 rfl rfl ?_
                      obtain ⟨q19, hf⟩ := zCk_s hf
                      refine zr_iald (pc := 152) h gkc_39 q19 rfl dX11_group_152 ?_
                      exact zr_iret (pc := 153) h dX11_group_153 (zRi hf) rfl
                    · have hf := hf.2 b18
                      refine zr_tabOut (pc := 14) (tgt := 154) h dX11_group_14 (zTab_9 b2 b4 b6 b8 b10 b12 b14 b16 b18) rfl ?_
                      refine zr_iconst (pc := 154) (v := (-1 : Int32)) h dX11_group_154 (by decide) ?_
                      exact zr_iret (pc := 155) h dX11_group_155 (zRi hf) rfl
  · have hf := hf.1 b20
    refine zr_iconst (pc := 11) (v := (-1 : Int32)) h dX11_group_11 (by decide) ?_
    exact zr_iret (pc := 12) h dX11_group_12 (zRi hf) rfl

set_option maxRecDepth 100000 in
set_option maxHeartbeats 4000000 in
theorem cX11_member_ok {l : Launch} {g : gG} {a1 : Int32} {a2 : Int32} {a3 : Int32} {μ : gM} {r : Int32} (hf : fX11_member a1 a2 a3 μ = some r) : gMet l g yX11_member cX11_member 5 (some .int) 2 44 [.ref (g.1 + 0), .int a1, .int a2, .int a3] μ (some (.int r)) μ := by
  refine gMet_of (gIni [.ref (g.1 + 0), .int a1, .int a2, .int a3] ++ List.replicate 1 none) (by decide) (gIni_ok _ _) (Nat.le_of_ble_eq_true rfl) (fun K h => ?_)
  show K 0 [some (.ref (g.1 + 0)), some (.int a1), some (.int a2), some (.int a3), none] [] μ
  unfold fX11_member at hf
  refine zr_aload_n (pc := 0) h dX11_member_0 rfl rfl ?_
  refine zf_X11_19 (pc := 1) h gkc_0 dX11_member_1 ?_
  refine zr_iload_n (pc := 4) h dX11_member_4 rfl rfl ?_
  refine zr_iload_n (pc := 5) h dX11_member_5 rfl rfl ?_
  obtain ⟨x1, ex1, hf⟩ := zBd_s hf
  refine zm_X11_213 (pc := 6) h gkc_4 ⟨by decide, by decide⟩ (cX1_isMember_ok gkc_4 ex1) rfl (Nat.le_of_ble_eq_true rfl) dX11_member_6 rfl ?_
  have hf := zIf_s hf
  refine zr_if_ne (pc := 9) (tgt := 14) h dX11_member_9 rfl (fun b20 => ?_) (fun b20 => ?_)
  · have hf := hf.2 b20
    refine zr_iload_n (pc := 14) h dX11_member_14 rfl rfl ?_
    refine zr_bipush (pc := 15) (v := (6 : Int32)) h dX11_member_15 (by decide) ?_
    refine zr_imul (pc := 17) h dX11_member_17 ?_
    refine zr_iload_n (pc := 18) h dX11_member_18 rfl rfl ?_
    refine zr_iadd (pc := 19) h dX11_member_19 ?_
    refine zr_topi h (fun x2 ex2 => ?_)
    have hf := zLt_s ex2 hf
    refine zr_istore (pc := 20) h dX11_member_20 (by decide) rfl ?_
    refine zr_iload_n (pc := 22) h dX11_member_22 rfl rfl ?_
    have hf := zIf_s hf
    rcases Decidable.em (a3 = (0 : Int32)) with b3 | b3
    · have hf := hf.1 b3
      refine zr_tabIn (pc := 23) (tgt := 68) h dX11_member_23 (by rw [b3]; decide) (by rw [b3]; decide) (off := 45) (by rw [b3]; rfl) rfl ?_
      refine zr_aload_n (pc := 68) h dX11_member_68 rfl rfl ?_
      refine zf_X11_44 (pc := 69) h gkc_0 dX11_member_69 ?_
      refine zf_X11_217 (pc := 72) h gkc_34 dX11_member_72 ?_
      refine zr_iload (pc := 75) h dX11_member_75 rfl ?_
      obtain ⟨q4, hf⟩ := zCk_s hf
      refine zr_iald (pc := 77) h gkc_43 q4 rfl dX11_member_77 ?_
      exact zr_iret (pc := 78) h dX11_member_78 (zRi hf) rfl
    · have hf := hf.2 b3
      have hf := zIf_s hf
      rcases Decidable.em (a3 = (1 : Int32)) with b5 | b5
      · have hf := hf.1 b5
        refine zr_tabIn (pc := 23) (tgt := 79) h dX11_member_23 (by rw [b5]; decide) (by rw [b5]; decide) (off := 56) (by rw [b5]; rfl) rfl ?_
        refine zr_aload_n (pc := 79) h dX11_member_79 rfl rfl ?_
        refine zf_X11_44 (pc := 80) h gkc_0 dX11_member_80 ?_
        refine zf_X11_220 (pc := 83) h gkc_34 dX11_member_83 ?_
        refine zr_iload (pc := 86) h dX11_member_86 rfl ?_
        obtain ⟨q6, hf⟩ := zCk_s hf
        refine zr_iald (pc := 88) h gkc_44 q6 rfl dX11_member_88 ?_
        exact zr_iret (pc := 89) h dX11_member_89 (zRi hf) rfl
      · have hf := hf.2 b5
        have hf := zIf_s hf
        rcases Decidable.em (a3 = (2 : Int32)) with b7 | b7
        · have hf := hf.1 b7
          refine zr_tabIn (pc := 23) (tgt := 90) h dX11_member_23 (by rw [b7]; decide) (by rw [b7]; decide) (off := 67) (by rw [b7]; rfl) rfl ?_
          refine zr_aload_n (pc := 90) h dX11_member_90 rfl rfl ?_
          refine zf_X11_19 (pc := 91) h gkc_0 dX11_member_91 ?_
          refine zf_X11_223 (pc := 94) h gkc_4 dX11_member_94 ?_
          refine zr_iload (pc := 97) h dX11_member_97 rfl ?_
          obtain ⟨q8, hf⟩ := zCk_s hf
          refine zr_iald (pc := 99) h gkc_13 q8 rfl dX11_member_99 ?_
          exact zr_iret (pc := 100) h dX11_member_100 (zRi hf) rfl
        · have hf := hf.2 b7
          have hf := zIf_s hf
          rcases Decidable.em (a3 = (3 : Int32)) with b9 | b9
          · have hf := hf.1 b9
            refine zr_tabIn (pc := 23) (tgt := 101) h dX11_member_23 (by rw [b9]; decide) (by rw [b9]; decide) (off := 78) (by rw [b9]; rfl) rfl ?_
            refine zr_aload_n (pc := 101) h dX11_member_101 rfl rfl ?_
            refine zf_X11_44 (pc := 102) h gkc_0 dX11_member_102 ?_
            refine zr_iload_n (pc := 105) h dX11_member_105 rfl rfl ?_
            refine zr_iload_n (pc := 106) h dX11_member_106 rfl rfl ?_
            obtain ⟨x10, ex10, hf⟩ := zBd_s hf
            refine zm_X11_226 (pc := 107) h gkc_34 ⟨by decide, by decide⟩ (cX9_howIs_ok gkc_34 ex10) rfl (Nat.le_of_ble_eq_true rfl) dX11_member_107 rfl ?_
            exact zr_iret (pc := 110) h dX11_member_110 (zRi hf) rfl
          · have hf := hf.2 b9
            have hf := zIf_s hf
            rcases Decidable.em (a3 = (4 : Int32)) with b11 | b11
            · have hf := hf.1 b11
              refine zr_tabIn (pc := 23) (tgt := 111) h dX11_member_23 (by rw [b11]; decide) (by rw [b11]; decide) (off := 88) (by rw [b11]; rfl) rfl ?_
              refine zr_aload_n (pc := 111) h dX11_member_111 rfl rfl ?_
              refine zf_X11_44 (pc := 112) h gkc_0 dX11_member_112 ?_
              refine zf_X11_230 (pc := 115) h gkc_34 dX11_member_115 ?_
              refine zr_iload (pc := 118) h dX11_member_118 rfl ?_
              obtain ⟨q12, hf⟩ := zCk_s hf
              refine zr_iald (pc := 120) h gkc_46 q12 rfl dX11_member_120 ?_
              exact zr_iret (pc := 121) h dX11_member_121 (zRi hf) rfl
            · have hf := hf.2 b11
              have hf := zIf_s hf
              rcases Decidable.em (a3 = (5 : Int32)) with b13 | b13
              · have hf := hf.1 b13
                refine zr_tabIn (pc := 23) (tgt := 122) h dX11_member_23 (by rw [b13]; decide) (by rw [b13]; decide) (off := 99) (by rw [b13]; rfl) rfl ?_
                refine zr_aload_n (pc := 122) h dX11_member_122 rfl rfl ?_
                refine zf_X11_44 (pc := 123) h gkc_0 dX11_member_123 ?_
                refine zf_X11_233 (pc := 126) h gkc_34 dX11_member_126 ?_
                refine zr_iload (pc := 129) h dX11_member_129 rfl ?_
                obtain ⟨q14, hf⟩ := zCk_s hf
                refine zr_iald (pc := 131) h gkc_45 q14 rfl dX11_member_131 ?_
                exact zr_iret (pc := 132) h dX11_member_132 (zRi hf) rfl
              · have hf := hf.2 b13
                have hf := zIf_s hf
                rcases Decidable.em (a3 = (6 : Int32)) with b15 | b15
                · have hf := hf.1 b15
                  refine zr_tabIn (pc := 23) (tgt := 133) h dX11_member_23 (by rw [b15]; decide) (by rw [b15]; decide) (off := 110) (by rw [b15]; rfl) rfl ?_
                  refine zr_aload_n (pc := 133) h dX11_member_133 rfl rfl ?_
                  refine zf_X11_19 (pc := 134) h gkc_0 dX11_member_134 ?_
                  refine zr_iload_n (pc := 137) h dX11_member_137 rfl rfl ?_
                  refine zr_aload_n (pc := 138) h dX11_member_138 rfl rfl ?_
                  refine zf_X11_44 (pc := 139) h gkc_0 dX11_member_139 ?_
                  refine zf_X11_233 (pc := 142) h gkc_34 dX11_member_142 ?_
                  refine zr_iload (pc := 145) h dX11_member_145 rfl ?_
                  obtain ⟨q16, hf⟩ := zCk_s hf
                  refine zr_iald (pc := 147) h gkc_45 q16 rfl dX11_member_147 ?_
                  obtain ⟨x17, ex17, hf⟩ := zBd_s hf
                  refine zm_X11_236 (pc := 148) h gkc_4 ⟨by decide, by decide⟩ (cX1_patience_ok gkc_4 ex17) rfl (Nat.le_of_ble_eq_true rfl) dX11_member_148 rfl ?_
                  exact zr_iret (pc := 151) h dX11_member_151 (zRi hf) rfl
                · have hf := hf.2 b15
                  have hf := zIf_s hf
                  rcases Decidable.em (a3 = (7 : Int32)) with b18 | b18
                  · have hf := hf.1 b18
                    refine zr_tabIn (pc := 23) (tgt := 152) h dX11_member_23 (by rw [b18]; decide) (by rw [b18]; decide) (off := 129) (by rw [b18]; rfl) rfl ?_
                    refine zr_aload_n (pc := 152) h dX11_member_152 rfl rfl ?_
                    refine zf_X11_44 (pc := 153) h gkc_0 dX11_member_153 ?_
                    refine zf_X11_239 (pc := 156) h gkc_34 dX11_member_156 ?_
                    refine zr_iload (pc := 159) h dX11_member_159 rfl ?_
                    obtain ⟨q19, hf⟩ := zCk_s hf
                    refine zr_iald (pc := 161) h gkc_47 q19 rfl dX11_member_161 ?_
                    exact zr_iret (pc := 162) h dX11_member_162 (zRi hf) rfl
                  · have hf := hf.2 b18
                    refine zr_tabOut (pc := 23) (tgt := 163) h dX11_member_23 (zTab_8 b3 b5 b7 b9 b11 b13 b15 b18) rfl ?_
                    refine zr_iconst (pc := 163) (v := (-1 : Int32)) h dX11_member_163 (by decide) ?_
                    exact zr_iret (pc := 164) h dX11_member_164 (zRi hf) rfl
  · have hf := hf.1 b20
    refine zr_iconst (pc := 12) (v := (-1 : Int32)) h dX11_member_12 (by decide) ?_
    exact zr_iret (pc := 13) h dX11_member_13 (zRi hf) rfl

set_option maxRecDepth 100000 in
set_option maxHeartbeats 4000000 in
theorem cX11_letter_ok {l : Launch} {g : gG} {a1 : Int32} {a2 : Int32} {a3 : Int32} {μ : gM} {r : Int32} (hf : fX11_letter a1 a2 a3 μ = some r) : gMet l g yX11_letter cX11_letter 4 (some .int) 1 22 [.ref (g.1 + 0), .int a1, .int a2, .int a3] μ (some (.int r)) μ := by
  refine gMet_of (gIni [.ref (g.1 + 0), .int a1, .int a2, .int a3] ++ List.replicate 0 none) (by decide) (gIni_ok _ _) (Nat.le_of_ble_eq_true rfl) (fun K h => ?_)
  show K 0 [some (.ref (g.1 + 0)), some (.int a1), some (.int a2), some (.int a3)] [] μ
  unfold fX11_letter at hf
  refine zr_aload_n (pc := 0) h dX11_letter_0 rfl rfl ?_
  refine zf_X11_19 (pc := 1) h gkc_0 dX11_letter_1 ?_
  refine zr_iload_n (pc := 4) h dX11_letter_4 rfl rfl ?_
  refine zr_iload_n (pc := 5) h dX11_letter_5 rfl rfl ?_
  obtain ⟨x1, ex1, hf⟩ := zBd_s hf
  refine zm_X11_242 (pc := 6) h gkc_4 ⟨by decide, by decide⟩ (cX1_isThere_ok gkc_4 ex1) rfl (Nat.le_of_ble_eq_true rfl) dX11_letter_6 rfl ?_
  have hf := zIf_s hf
  refine zr_if_eq (pc := 9) (tgt := 22) h dX11_letter_9 rfl (fun b5 => ?_) (fun b5 => ?_)
  · have hf := hf.1 b5
    refine zr_iconst (pc := 22) (v := (-1 : Int32)) h dX11_letter_22 (by decide) ?_
    exact zr_iret (pc := 23) h dX11_letter_23 (zRi hf) rfl
  · have hf := hf.2 b5
    refine zr_iload_n (pc := 12) h dX11_letter_12 rfl rfl ?_
    have hf := zIf_s hf
    refine zr_if_lt (pc := 13) (tgt := 22) h dX11_letter_13 rfl (fun b4 => ?_) (fun b4 => ?_)
    · have hf := hf.1 b4
      refine zr_iconst (pc := 22) (v := (-1 : Int32)) h dX11_letter_22 (by decide) ?_
      exact zr_iret (pc := 23) h dX11_letter_23 (zRi hf) rfl
    · have hf := hf.2 b4
      refine zr_iload_n (pc := 16) h dX11_letter_16 rfl rfl ?_
      refine zr_bipush (pc := 17) (v := (6 : Int32)) h dX11_letter_17 (by decide) ?_
      have hf := zIf_s hf
      refine zr_icmp_lt (pc := 19) (tgt := 24) h dX11_letter_19 rfl (fun b3 => ?_) (fun b3 => ?_)
      · have hf := hf.1 b3
        refine zr_aload_n (pc := 24) h dX11_letter_24 rfl rfl ?_
        refine zf_X11_19 (pc := 25) h gkc_0 dX11_letter_25 ?_
        refine zf_X11_245 (pc := 28) h gkc_4 dX11_letter_28 ?_
        refine zr_iload_n (pc := 31) h dX11_letter_31 rfl rfl ?_
        refine zr_bipush (pc := 32) (v := (8 : Int32)) h dX11_letter_32 (by decide) ?_
        refine zr_imul (pc := 34) h dX11_letter_34 ?_
        refine zr_iload_n (pc := 35) h dX11_letter_35 rfl rfl ?_
        refine zr_iadd (pc := 36) h dX11_letter_36 ?_
        obtain ⟨q2, hf⟩ := zCk_s hf
        refine zr_iald (pc := 37) h gkc_6 q2 rfl dX11_letter_37 ?_
        refine zr_iconst (pc := 38) (v := (5 : Int32)) h dX11_letter_38 (by decide) ?_
        refine zr_iload_n (pc := 39) h dX11_letter_39 rfl rfl ?_
        refine zr_imul (pc := 40) h dX11_letter_40 ?_
        refine zr_ishr (pc := 41) h dX11_letter_41 ?_
        refine zr_bipush (pc := 42) (v := (31 : Int32)) h dX11_letter_42 (by decide) ?_
        refine zr_iand (pc := 44) h dX11_letter_44 ?_
        exact zr_iret (pc := 45) h dX11_letter_45 (zRi hf) rfl
      · have hf := hf.2 b3
        refine zr_iconst (pc := 22) (v := (-1 : Int32)) h dX11_letter_22 (by decide) ?_
        exact zr_iret (pc := 23) h dX11_letter_23 (zRi hf) rfl

set_option maxRecDepth 100000 in
set_option maxHeartbeats 4000000 in
theorem cX11_track_ok {l : Launch} {g : gG} {a1 : Int32} {a2 : Int32} {μ : gM} {r : Int32} (hf : fX11_track a1 a2 μ = some r) : gMet l g yX11_track cX11_track 3 (some .int) 0 0 [.ref (g.1 + 0), .int a1, .int a2] μ (some (.int r)) μ := by
  refine gMet_of (gIni [.ref (g.1 + 0), .int a1, .int a2] ++ List.replicate 0 none) (by decide) (gIni_ok _ _) (Nat.le_of_ble_eq_true rfl) (fun K h => ?_)
  show K 0 [some (.ref (g.1 + 0)), some (.int a1), some (.int a2)] [] μ
  unfold fX11_track at hf
  refine zr_iload_n (pc := 0) h dX11_track_0 rfl rfl ?_
  have hf := zIf_s hf
  refine zr_if_lt (pc := 1) (tgt := 15) h dX11_track_1 rfl (fun b10 => ?_) (fun b10 => ?_)
  · have hf := hf.1 b10
    refine zr_iconst (pc := 15) (v := (-1 : Int32)) h dX11_track_15 (by decide) ?_
    exact zr_iret (pc := 16) h dX11_track_16 (zRi hf) rfl
  · have hf := hf.2 b10
    refine zr_iload_n (pc := 4) h dX11_track_4 rfl rfl ?_
    refine zr_aload_n (pc := 5) h dX11_track_5 rfl rfl ?_
    refine zf_X11_19 (pc := 6) h gkc_0 dX11_track_6 ?_
    refine zf_X11_150 (pc := 9) h gkc_4 dX11_track_9 ?_
    have hf := zIf_s hf
    refine zr_icmp_lt (pc := 12) (tgt := 17) h dX11_track_12 rfl (fun b9 => ?_) (fun b9 => ?_)
    · have hf := hf.1 b9
      refine zr_iload_n (pc := 17) h dX11_track_17 rfl rfl ?_
      have hf := zIf_s hf
      rcases Decidable.em (a2 = (0 : Int32)) with b1 | b1
      · have hf := hf.1 b1
        refine zr_tabIn (pc := 18) (tgt := 48) h dX11_track_18 (by rw [b1]; decide) (by rw [b1]; decide) (off := 30) (by rw [b1]; rfl) rfl ?_
        refine zr_aload_n (pc := 48) h dX11_track_48 rfl rfl ?_
        refine zf_X11_19 (pc := 49) h gkc_0 dX11_track_49 ?_
        refine zf_X11_248 (pc := 52) h gkc_4 dX11_track_52 ?_
        refine zr_iload_n (pc := 55) h dX11_track_55 rfl rfl ?_
        obtain ⟨q2, hf⟩ := zCk_s hf
        refine zr_iald (pc := 56) h gkc_14 q2 rfl dX11_track_56 ?_
        refine zr_bipush (pc := 57) (v := (6 : Int32)) h dX11_track_57 (by decide) ?_
        refine zr_idiv (pc := 59) h dX11_track_59 (by decide) ?_
        exact zr_iret (pc := 60) h dX11_track_60 (zRi hf) rfl
      · have hf := hf.2 b1
        have hf := zIf_s hf
        rcases Decidable.em (a2 = (1 : Int32)) with b3 | b3
        · have hf := hf.1 b3
          refine zr_tabIn (pc := 18) (tgt := 61) h dX11_track_18 (by rw [b3]; decide) (by rw [b3]; decide) (off := 43) (by rw [b3]; rfl) rfl ?_
          refine zr_aload_n (pc := 61) h dX11_track_61 rfl rfl ?_
          refine zf_X11_19 (pc := 62) h gkc_0 dX11_track_62 ?_
          refine zf_X11_248 (pc := 65) h gkc_4 dX11_track_65 ?_
          refine zr_iload_n (pc := 68) h dX11_track_68 rfl rfl ?_
          obtain ⟨q4, hf⟩ := zCk_s hf
          refine zr_iald (pc := 69) h gkc_14 q4 rfl dX11_track_69 ?_
          refine zr_bipush (pc := 70) (v := (6 : Int32)) h dX11_track_70 (by decide) ?_
          refine zr_irem (pc := 72) h dX11_track_72 (by decide) ?_
          exact zr_iret (pc := 73) h dX11_track_73 (zRi hf) rfl
        · have hf := hf.2 b3
          have hf := zIf_s hf
          rcases Decidable.em (a2 = (2 : Int32)) with b5 | b5
          · have hf := hf.1 b5
            refine zr_tabIn (pc := 18) (tgt := 74) h dX11_track_18 (by rw [b5]; decide) (by rw [b5]; decide) (off := 56) (by rw [b5]; rfl) rfl ?_
            refine zr_aload_n (pc := 74) h dX11_track_74 rfl rfl ?_
            refine zf_X11_19 (pc := 75) h gkc_0 dX11_track_75 ?_
            refine zf_X11_251 (pc := 78) h gkc_4 dX11_track_78 ?_
            refine zr_iload_n (pc := 81) h dX11_track_81 rfl rfl ?_
            obtain ⟨q6, hf⟩ := zCk_s hf
            refine zr_iald (pc := 82) h gkc_15 q6 rfl dX11_track_82 ?_
            exact zr_iret (pc := 83) h dX11_track_83 (zRi hf) rfl
          · have hf := hf.2 b5
            have hf := zIf_s hf
            rcases Decidable.em (a2 = (3 : Int32)) with b7 | b7
            · have hf := hf.1 b7
              refine zr_tabIn (pc := 18) (tgt := 84) h dX11_track_18 (by rw [b7]; decide) (by rw [b7]; decide) (off := 66) (by rw [b7]; rfl) rfl ?_
              refine zr_aload_n (pc := 84) h dX11_track_84 rfl rfl ?_
              refine zf_X11_19 (pc := 85) h gkc_0 dX11_track_85 ?_
              refine zf_X11_254 (pc := 88) h gkc_4 dX11_track_88 ?_
              refine zr_iload_n (pc := 91) h dX11_track_91 rfl rfl ?_
              obtain ⟨q8, hf⟩ := zCk_s hf
              refine zr_iald (pc := 92) h gkc_16 q8 rfl dX11_track_92 ?_
              exact zr_iret (pc := 93) h dX11_track_93 (zRi hf) rfl
            · have hf := hf.2 b7
              refine zr_tabOut (pc := 18) (tgt := 94) h dX11_track_18 (zTab_4 b1 b3 b5 b7) rfl ?_
              refine zr_iconst (pc := 94) (v := (-1 : Int32)) h dX11_track_94 (by decide) ?_
              exact zr_iret (pc := 95) h dX11_track_95 (zRi hf) rfl
    · have hf := hf.2 b9
      refine zr_iconst (pc := 15) (v := (-1 : Int32)) h dX11_track_15 (by decide) ?_
      exact zr_iret (pc := 16) h dX11_track_16 (zRi hf) rfl

set_option maxRecDepth 100000 in
set_option maxHeartbeats 4000000 in
theorem cX11_event_ok {l : Launch} {g : gG} {a1 : Int32} {a2 : Int32} {μ : gM} {r : Int32} (hf : fX11_event a1 a2 μ = some r) : gMet l g yX11_event cX11_event 3 (some .int) 0 0 [.ref (g.1 + 0), .int a1, .int a2] μ (some (.int r)) μ := by
  refine gMet_of (gIni [.ref (g.1 + 0), .int a1, .int a2] ++ List.replicate 0 none) (by decide) (gIni_ok _ _) (Nat.le_of_ble_eq_true rfl) (fun K h => ?_)
  show K 0 [some (.ref (g.1 + 0)), some (.int a1), some (.int a2)] [] μ
  unfold fX11_event at hf
  refine zr_iload_n (pc := 0) h dX11_event_0 rfl rfl ?_
  have hf := zIf_s hf
  refine zr_if_lt (pc := 1) (tgt := 27) h dX11_event_1 rfl (fun b5 => ?_) (fun b5 => ?_)
  · have hf := hf.1 b5
    refine zr_iconst (pc := 27) (v := (-1 : Int32)) h dX11_event_27 (by decide) ?_
    exact zr_iret (pc := 28) h dX11_event_28 (zRi hf) rfl
  · have hf := hf.2 b5
    refine zr_iload_n (pc := 4) h dX11_event_4 rfl rfl ?_
    refine zr_aload_n (pc := 5) h dX11_event_5 rfl rfl ?_
    refine zf_X11_44 (pc := 6) h gkc_0 dX11_event_6 ?_
    refine zf_X11_116 (pc := 9) h gkc_34 dX11_event_9 ?_
    refine zf_X11_137 (pc := 12) h gkc_35 dX11_event_12 ?_
    have hf := zIf_s hf
    refine zr_icmp_ge (pc := 15) (tgt := 27) h dX11_event_15 rfl (fun b4 => ?_) (fun b4 => ?_)
    · have hf := hf.1 b4
      refine zr_iconst (pc := 27) (v := (-1 : Int32)) h dX11_event_27 (by decide) ?_
      exact zr_iret (pc := 28) h dX11_event_28 (zRi hf) rfl
    · have hf := hf.2 b4
      refine zr_iload_n (pc := 18) h dX11_event_18 rfl rfl ?_
      have hf := zIf_s hf
      refine zr_if_lt (pc := 19) (tgt := 27) h dX11_event_19 rfl (fun b3 => ?_) (fun b3 => ?_)
      · have hf := hf.1 b3
        refine zr_iconst (pc := 27) (v := (-1 : Int32)) h dX11_event_27 (by decide) ?_
        exact zr_iret (pc := 28) h dX11_event_28 (zRi hf) rfl
      · have hf := hf.2 b3
        refine zr_iload_n (pc := 22) h dX11_event_22 rfl rfl ?_
        refine zr_iconst (pc := 23) (v := (5 : Int32)) h dX11_event_23 (by decide) ?_
        have hf := zIf_s hf
        refine zr_icmp_lt (pc := 24) (tgt := 29) h dX11_event_24 rfl (fun b2 => ?_) (fun b2 => ?_)
        · have hf := hf.1 b2
          refine zr_aload_n (pc := 29) h dX11_event_29 rfl rfl ?_
          refine zf_X11_44 (pc := 30) h gkc_0 dX11_event_30 ?_
          refine zf_X11_116 (pc := 33) h gkc_34 dX11_event_33 ?_
          refine zf_X11_257 (pc := 36) h gkc_35 dX11_event_36 ?_
          refine zr_iload_n (pc := 39) h dX11_event_39 rfl rfl ?_
          refine zr_iconst (pc := 40) (v := (5 : Int32)) h dX11_event_40 (by decide) ?_
          refine zr_imul (pc := 41) h dX11_event_41 ?_
          refine zr_iload_n (pc := 42) h dX11_event_42 rfl rfl ?_
          refine zr_iadd (pc := 43) h dX11_event_43 ?_
          obtain ⟨q1, hf⟩ := zCk_s hf
          refine zr_iald (pc := 44) h gkc_36 q1 rfl dX11_event_44 ?_
          exact zr_iret (pc := 45) h dX11_event_45 (zRi hf) rfl
        · have hf := hf.2 b2
          refine zr_iconst (pc := 27) (v := (-1 : Int32)) h dX11_event_27 (by decide) ?_
          exact zr_iret (pc := 28) h dX11_event_28 (zRi hf) rfl

set_option maxRecDepth 100000 in
set_option maxHeartbeats 4000000 in
theorem cX11_ticks_ok {l : Launch} {g : gG} {a1 : Int32} {μ : gM} {r : Int32} {ν : gM} (hf : fX11_ticks a1 μ = some (r, ν)) : gMet l g yX11_ticks cX11_ticks 2 (some .int) 6 178 [.ref (g.1 + 0), .int a1] μ (some (.int r)) ν := by
  refine gMet_of (gIni [.ref (g.1 + 0), .int a1] ++ List.replicate 0 none) (by decide) (gIni_ok _ _) (Nat.le_of_ble_eq_true rfl) (fun K h => ?_)
  show K 0 [some (.ref (g.1 + 0)), some (.int a1)] [] μ
  unfold fX11_ticks at hf
  refine zr_aload_n (pc := 0) h dX11_ticks_0 rfl rfl ?_
  refine zf_X11_19 (pc := 1) h gkc_0 dX11_ticks_1 ?_
  refine zf_X11_97 (pc := 4) h gkc_4 dX11_ticks_4 ?_
  have hf := zIf_s hf
  refine zr_if_eq (pc := 7) (tgt := 37) h dX11_ticks_7 rfl (fun b6 => ?_) (fun b6 => ?_)
  · have hf := hf.1 b6
    refine zr_bipush (pc := 37) (v := (-2 : Int32)) h dX11_ticks_37 (by decide) ?_
    exact zr_iret (pc := 39) h dX11_ticks_39 (zRp hf).1 (zRp hf).2
  · have hf := hf.2 b6
    refine zr_iload_n (pc := 10) h dX11_ticks_10 rfl rfl ?_
    refine zr_iconst (pc := 11) (v := (1 : Int32)) h dX11_ticks_11 (by decide) ?_
    have hf := zIf_s hf
    refine zr_icmp_lt (pc := 12) (tgt := 37) h dX11_ticks_12 rfl (fun b5 => ?_) (fun b5 => ?_)
    · have hf := hf.1 b5
      refine zr_bipush (pc := 37) (v := (-2 : Int32)) h dX11_ticks_37 (by decide) ?_
      exact zr_iret (pc := 39) h dX11_ticks_39 (zRp hf).1 (zRp hf).2
    · have hf := hf.2 b5
      refine zr_iload_n (pc := 15) h dX11_ticks_15 rfl rfl ?_
      refine zr_sipush (pc := 16) (v := (500 : Int32)) h dX11_ticks_16 (by decide) ?_
      have hf := zIf_s hf
      refine zr_icmp_gt (pc := 19) (tgt := 37) h dX11_ticks_19 rfl (fun b4 => ?_) (fun b4 => ?_)
      · have hf := hf.1 b4
        refine zr_bipush (pc := 37) (v := (-2 : Int32)) h dX11_ticks_37 (by decide) ?_
        exact zr_iret (pc := 39) h dX11_ticks_39 (zRp hf).1 (zRp hf).2
      · have hf := hf.2 b4
        refine zr_aload_n (pc := 22) h dX11_ticks_22 rfl rfl ?_
        refine zf_X11_44 (pc := 23) h gkc_0 dX11_ticks_23 ?_
        refine zf_X11_127 (pc := 26) h gkc_34 dX11_ticks_26 ?_
        refine zr_iload_n (pc := 29) h dX11_ticks_29 rfl rfl ?_
        refine zr_iadd (pc := 30) h dX11_ticks_30 ?_
        refine zr_sipush (pc := 31) (v := (9999 : Int32)) h dX11_ticks_31 (by decide) ?_
        have hf := zIf_s hf
        refine zr_icmp_le (pc := 34) (tgt := 40) h dX11_ticks_34 rfl (fun b3 => ?_) (fun b3 => ?_)
        · have hf := hf.1 b3
          refine zr_aload_n (pc := 40) h dX11_ticks_40 rfl rfl ?_
          refine zf_X11_60 (pc := 41) h gkc_0 dX11_ticks_41 ?_
          refine zr_aload_n (pc := 44) h dX11_ticks_44 rfl rfl ?_
          refine zf_X11_44 (pc := 45) h gkc_0 dX11_ticks_45 ?_
          obtain ⟨μ1, eμ1, hf⟩ := zBd_s hf
          refine zm_X11_112 (pc := 48) h gkc_49 ⟨by decide, by decide⟩ (cX4_save_ok gkc_34 eμ1) rfl (Nat.le_of_ble_eq_true rfl) dX11_ticks_48 rfl ?_
          refine zr_aload_n (pc := 51) h dX11_ticks_51 rfl rfl ?_
          refine zf_X11_53 (pc := 52) h gkc_0 dX11_ticks_52 ?_
          refine zr_iload_n (pc := 55) h dX11_ticks_55 rfl rfl ?_
          obtain ⟨μ2, eμ2, hf⟩ := zBd_s hf
          refine zm_X11_260 (pc := 56) h gkc_48 ⟨by decide, by decide⟩ (cX10_run_ok gkc_48 eμ2) rfl (Nat.le_of_ble_eq_true rfl) dX11_ticks_56 rfl ?_
          refine zr_aload_n (pc := 59) h dX11_ticks_59 rfl rfl ?_
          refine zf_X11_44 (pc := 60) h gkc_0 dX11_ticks_60 ?_
          refine zf_X11_127 (pc := 63) h gkc_34 dX11_ticks_63 ?_
          exact zr_iret (pc := 66) h dX11_ticks_66 (zRp hf).1 (zRp hf).2
        · have hf := hf.2 b3
          refine zr_bipush (pc := 37) (v := (-2 : Int32)) h dX11_ticks_37 (by decide) ?_
          exact zr_iret (pc := 39) h dX11_ticks_39 (zRp hf).1 (zRp hf).2

set_option maxRecDepth 100000 in
set_option maxHeartbeats 4000000 in
theorem cX11_up_ok {l : Launch} {g : gG} {a1 : Int32} {μ : gM} {r : Int32} {ν : gM} (hf : fX11_up a1 μ = some (r, ν)) : gMet l g yX11_up cX11_up 2 (some .int) 4 123 [.ref (g.1 + 0), .int a1] μ (some (.int r)) ν := by
  refine gMet_of (gIni [.ref (g.1 + 0), .int a1] ++ List.replicate 0 none) (by decide) (gIni_ok _ _) (Nat.le_of_ble_eq_true rfl) (fun K h => ?_)
  show K 0 [some (.ref (g.1 + 0)), some (.int a1)] [] μ
  unfold fX11_up at hf
  refine zr_aload_n (pc := 0) h dX11_up_0 rfl rfl ?_
  refine zf_X11_19 (pc := 1) h gkc_0 dX11_up_1 ?_
  refine zr_iconst (pc := 4) (v := (0 : Int32)) h dX11_up_4 (by decide) ?_
  refine zr_iload_n (pc := 5) h dX11_up_5 rfl rfl ?_
  obtain ⟨x1, ex1, hf⟩ := zBd_s hf
  refine zm_X11_242 (pc := 6) h gkc_4 ⟨by decide, by decide⟩ (cX1_isThere_ok gkc_4 ex1) rfl (Nat.le_of_ble_eq_true rfl) dX11_up_6 rfl ?_
  have hf := zIf_s hf
  refine zr_if_ne (pc := 9) (tgt := 15) h dX11_up_9 rfl (fun b6 => ?_) (fun b6 => ?_)
  · have hf := hf.2 b6
    refine zr_aload_n (pc := 15) h dX11_up_15 rfl rfl ?_
    refine zf_X11_44 (pc := 16) h gkc_0 dX11_up_16 ?_
    refine zr_iload_n (pc := 19) h dX11_up_19 rfl rfl ?_
    obtain ⟨x2, ex2, hf⟩ := zBd_s hf
    refine zm_X11_263 (pc := 20) h gkc_34 ⟨by decide, by decide⟩ (cX9_isUp_ok gkc_34 ex2) rfl (Nat.le_of_ble_eq_true rfl) dX11_up_20 rfl ?_
    have hf := zIf_s hf
    refine zr_if_eq (pc := 23) (tgt := 29) h dX11_up_23 rfl (fun b5 => ?_) (fun b5 => ?_)
    · have hf := hf.1 b5
      refine zr_aload_n (pc := 29) h dX11_up_29 rfl rfl ?_
      refine zf_X11_60 (pc := 30) h gkc_0 dX11_up_30 ?_
      refine zr_aload_n (pc := 33) h dX11_up_33 rfl rfl ?_
      refine zf_X11_44 (pc := 34) h gkc_0 dX11_up_34 ?_
      obtain ⟨μ3, eμ3, hf⟩ := zBd_s hf
      refine zm_X11_112 (pc := 37) h gkc_49 ⟨by decide, by decide⟩ (cX4_save_ok gkc_34 eμ3) rfl (Nat.le_of_ble_eq_true rfl) dX11_up_37 rfl ?_
      refine zr_aload_n (pc := 40) h dX11_up_40 rfl rfl ?_
      refine zf_X11_53 (pc := 41) h gkc_0 dX11_up_41 ?_
      refine zr_iconst (pc := 44) (v := (1 : Int32)) h dX11_up_44 (by decide) ?_
      refine zr_iload_n (pc := 45) h dX11_up_45 rfl rfl ?_
      refine zr_ishl (pc := 46) h dX11_up_46 ?_
      obtain ⟨μ4, eμ4, hf⟩ := zBd_s hf
      refine zm_X11_266 (pc := 47) h gkc_48 ⟨by decide, by decide⟩ (cX10_raise_ok gkc_48 eμ4) rfl (Nat.le_of_ble_eq_true rfl) dX11_up_47 rfl ?_
      refine zr_iconst (pc := 50) (v := (1 : Int32)) h dX11_up_50 (by decide) ?_
      exact zr_iret (pc := 51) h dX11_up_51 (zRp hf).1 (zRp hf).2
    · have hf := hf.2 b5
      refine zr_bipush (pc := 26) (v := (-3 : Int32)) h dX11_up_26 (by decide) ?_
      exact zr_iret (pc := 28) h dX11_up_28 (zRp hf).1 (zRp hf).2
  · have hf := hf.1 b6
    refine zr_bipush (pc := 12) (v := (-2 : Int32)) h dX11_up_12 (by decide) ?_
    exact zr_iret (pc := 14) h dX11_up_14 (zRp hf).1 (zRp hf).2

set_option maxRecDepth 100000 in
set_option maxHeartbeats 4000000 in
theorem cX11_down_ok {l : Launch} {g : gG} {a1 : Int32} {a2 : Int32} {μ : gM} {r : Int32} {ν : gM} (hf : fX11_down a1 a2 μ = some (r, ν)) : gMet l g yX11_down cX11_down 3 (some .int) 4 123 [.ref (g.1 + 0), .int a1, .int a2] μ (some (.int r)) ν := by
  refine gMet_of (gIni [.ref (g.1 + 0), .int a1, .int a2] ++ List.replicate 0 none) (by decide) (gIni_ok _ _) (Nat.le_of_ble_eq_true rfl) (fun K h => ?_)
  show K 0 [some (.ref (g.1 + 0)), some (.int a1), some (.int a2)] [] μ
  unfold fX11_down at hf
  refine zr_aload_n (pc := 0) h dX11_down_0 rfl rfl ?_
  refine zf_X11_19 (pc := 1) h gkc_0 dX11_down_1 ?_
  refine zr_iconst (pc := 4) (v := (0 : Int32)) h dX11_down_4 (by decide) ?_
  refine zr_iload_n (pc := 5) h dX11_down_5 rfl rfl ?_
  obtain ⟨x1, ex1, hf⟩ := zBd_s hf
  refine zm_X11_242 (pc := 6) h gkc_4 ⟨by decide, by decide⟩ (cX1_isThere_ok gkc_4 ex1) rfl (Nat.le_of_ble_eq_true rfl) dX11_down_6 rfl ?_
  have hf := zIf_s hf
  refine zr_if_ne (pc := 9) (tgt := 15) h dX11_down_9 rfl (fun b7 => ?_) (fun b7 => ?_)
  · have hf := hf.2 b7
    refine zr_aload_n (pc := 15) h dX11_down_15 rfl rfl ?_
    refine zf_X11_44 (pc := 16) h gkc_0 dX11_down_16 ?_
    refine zr_iload_n (pc := 19) h dX11_down_19 rfl rfl ?_
    obtain ⟨x2, ex2, hf⟩ := zBd_s hf
    refine zm_X11_263 (pc := 20) h gkc_34 ⟨by decide, by decide⟩ (cX9_isUp_ok gkc_34 ex2) rfl (Nat.le_of_ble_eq_true rfl) dX11_down_20 rfl ?_
    have hf := zIf_s hf
    refine zr_if_ne (pc := 23) (tgt := 29) h dX11_down_23 rfl (fun b6 => ?_) (fun b6 => ?_)
    · have hf := hf.2 b6
      refine zr_aload_n (pc := 29) h dX11_down_29 rfl rfl ?_
      refine zf_X11_60 (pc := 30) h gkc_0 dX11_down_30 ?_
      refine zr_aload_n (pc := 33) h dX11_down_33 rfl rfl ?_
      refine zf_X11_44 (pc := 34) h gkc_0 dX11_down_34 ?_
      obtain ⟨μ3, eμ3, hf⟩ := zBd_s hf
      refine zm_X11_112 (pc := 37) h gkc_49 ⟨by decide, by decide⟩ (cX4_save_ok gkc_34 eμ3) rfl (Nat.le_of_ble_eq_true rfl) dX11_down_37 rfl ?_
      refine zr_aload_n (pc := 40) h dX11_down_40 rfl rfl ?_
      refine zf_X11_53 (pc := 41) h gkc_0 dX11_down_41 ?_
      refine zr_iload_n (pc := 44) h dX11_down_44 rfl rfl ?_
      refine zr_iload_n (pc := 45) h dX11_down_45 rfl rfl ?_
      obtain ⟨x4, μ5, ex4, hf⟩ := zBp_s hf
      refine zm_X11_269 (pc := 46) h gkc_48 ⟨by decide, by decide⟩ (cX10_lower_ok gkc_48 ex4) rfl (Nat.le_of_ble_eq_true rfl) dX11_down_46 rfl ?_
      exact zr_iret (pc := 49) h dX11_down_49 (zRp hf).1 (zRp hf).2
    · have hf := hf.1 b6
      refine zr_bipush (pc := 26) (v := (-3 : Int32)) h dX11_down_26 (by decide) ?_
      exact zr_iret (pc := 28) h dX11_down_28 (zRp hf).1 (zRp hf).2
  · have hf := hf.1 b7
    refine zr_bipush (pc := 12) (v := (-2 : Int32)) h dX11_down_12 (by decide) ?_
    exact zr_iret (pc := 14) h dX11_down_14 (zRp hf).1 (zRp hf).2

set_option maxRecDepth 100000 in
set_option maxHeartbeats 4000000 in
theorem cX11_cut_ok {l : Launch} {g : gG} {a1 : Int32} {a2 : Int32} {μ : gM} {r : Int32} {ν : gM} (hf : fX11_cut a1 a2 μ = some (r, ν)) : gMet l g yX11_cut cX11_cut 3 (some .int) 4 123 [.ref (g.1 + 0), .int a1, .int a2] μ (some (.int r)) ν := by
  refine gMet_of (gIni [.ref (g.1 + 0), .int a1, .int a2] ++ List.replicate 0 none) (by decide) (gIni_ok _ _) (Nat.le_of_ble_eq_true rfl) (fun K h => ?_)
  show K 0 [some (.ref (g.1 + 0)), some (.int a1), some (.int a2)] [] μ
  unfold fX11_cut at hf
  refine zr_aload_n (pc := 0) h dX11_cut_0 rfl rfl ?_
  refine zf_X11_19 (pc := 1) h gkc_0 dX11_cut_1 ?_
  refine zr_iconst (pc := 4) (v := (1 : Int32)) h dX11_cut_4 (by decide) ?_
  refine zr_iload_n (pc := 5) h dX11_cut_5 rfl rfl ?_
  obtain ⟨x1, ex1, hf⟩ := zBd_s hf
  refine zm_X11_242 (pc := 6) h gkc_4 ⟨by decide, by decide⟩ (cX1_isThere_ok gkc_4 ex1) rfl (Nat.le_of_ble_eq_true rfl) dX11_cut_6 rfl ?_
  have hf := zIf_s hf
  refine zr_if_ne (pc := 9) (tgt := 15) h dX11_cut_9 rfl (fun b6 => ?_) (fun b6 => ?_)
  · have hf := hf.2 b6
    refine zr_iload_n (pc := 15) h dX11_cut_15 rfl rfl ?_
    refine zr_aload_n (pc := 16) h dX11_cut_16 rfl rfl ?_
    refine zf_X11_44 (pc := 17) h gkc_0 dX11_cut_17 ?_
    refine zr_iload_n (pc := 20) h dX11_cut_20 rfl rfl ?_
    obtain ⟨x2, ex2, hf⟩ := zBd_s hf
    refine zm_X11_273 (pc := 21) h gkc_34 ⟨by decide, by decide⟩ (cX9_isCut_ok gkc_34 ex2) rfl (Nat.le_of_ble_eq_true rfl) dX11_cut_21 rfl ?_
    have hf := zIf_s hf
    refine zr_icmp_ne (pc := 24) (tgt := 30) h dX11_cut_24 rfl (fun b5 => ?_) (fun b5 => ?_)
    · have hf := hf.2 b5
      refine zr_aload_n (pc := 30) h dX11_cut_30 rfl rfl ?_
      refine zf_X11_60 (pc := 31) h gkc_0 dX11_cut_31 ?_
      refine zr_aload_n (pc := 34) h dX11_cut_34 rfl rfl ?_
      refine zf_X11_44 (pc := 35) h gkc_0 dX11_cut_35 ?_
      obtain ⟨μ3, eμ3, hf⟩ := zBd_s hf
      refine zm_X11_112 (pc := 38) h gkc_49 ⟨by decide, by decide⟩ (cX4_save_ok gkc_34 eμ3) rfl (Nat.le_of_ble_eq_true rfl) dX11_cut_38 rfl ?_
      refine zr_aload_n (pc := 41) h dX11_cut_41 rfl rfl ?_
      refine zf_X11_53 (pc := 42) h gkc_0 dX11_cut_42 ?_
      refine zr_aload_n (pc := 45) h dX11_cut_45 rfl rfl ?_
      refine zf_X11_44 (pc := 46) h gkc_0 dX11_cut_46 ?_
      refine zf_X11_156 (pc := 49) h gkc_34 dX11_cut_49 ?_
      refine zr_iconst (pc := 52) (v := (1 : Int32)) h dX11_cut_52 (by decide) ?_
      refine zr_iload_n (pc := 53) h dX11_cut_53 rfl rfl ?_
      refine zr_ishl (pc := 54) h dX11_cut_54 ?_
      refine zr_ixor (pc := 55) h dX11_cut_55 ?_
      obtain ⟨μ4, eμ4, hf⟩ := zBd_s hf
      refine zm_X11_276 (pc := 56) h gkc_48 ⟨by decide, by decide⟩ (cX10_setCuts_ok gkc_48 eμ4) rfl (Nat.le_of_ble_eq_true rfl) dX11_cut_56 rfl ?_
      refine zr_iconst (pc := 59) (v := (1 : Int32)) h dX11_cut_59 (by decide) ?_
      exact zr_iret (pc := 60) h dX11_cut_60 (zRp hf).1 (zRp hf).2
    · have hf := hf.1 b5
      refine zr_bipush (pc := 27) (v := (-3 : Int32)) h dX11_cut_27 (by decide) ?_
      exact zr_iret (pc := 29) h dX11_cut_29 (zRp hf).1 (zRp hf).2
  · have hf := hf.1 b6
    refine zr_bipush (pc := 12) (v := (-2 : Int32)) h dX11_cut_12 (by decide) ?_
    exact zr_iret (pc := 14) h dX11_cut_14 (zRp hf).1 (zRp hf).2

set_option maxRecDepth 100000 in
set_option maxHeartbeats 4000000 in
theorem cX11_split_ok {l : Launch} {g : gG} {a1 : Int32} {μ : gM} {r : Int32} {ν : gM} (hf : fX11_split a1 μ = some (r, ν)) : gMet l g yX11_split cX11_split 2 (some .int) 4 123 [.ref (g.1 + 0), .int a1] μ (some (.int r)) ν := by
  refine gMet_of (gIni [.ref (g.1 + 0), .int a1] ++ List.replicate 0 none) (by decide) (gIni_ok _ _) (Nat.le_of_ble_eq_true rfl) (fun K h => ?_)
  show K 0 [some (.ref (g.1 + 0)), some (.int a1)] [] μ
  unfold fX11_split at hf
  refine zr_aload_n (pc := 0) h dX11_split_0 rfl rfl ?_
  refine zf_X11_19 (pc := 1) h gkc_0 dX11_split_1 ?_
  refine zf_X11_97 (pc := 4) h gkc_4 dX11_split_4 ?_
  have hf := zIf_s hf
  refine zr_if_eq (pc := 7) (tgt := 21) h dX11_split_7 rfl (fun b6 => ?_) (fun b6 => ?_)
  · have hf := hf.1 b6
    refine zr_bipush (pc := 21) (v := (-2 : Int32)) h dX11_split_21 (by decide) ?_
    exact zr_iret (pc := 23) h dX11_split_23 (zRp hf).1 (zRp hf).2
  · have hf := hf.2 b6
    refine zr_aload_n (pc := 10) h dX11_split_10 rfl rfl ?_
    refine zf_X11_19 (pc := 11) h gkc_0 dX11_split_11 ?_
    refine zr_iload_n (pc := 14) h dX11_split_14 rfl rfl ?_
    obtain ⟨x1, ex1, hf⟩ := zBd_s hf
    refine zm_X11_279 (pc := 15) h gkc_4 ⟨by decide, by decide⟩ (cX1_areGates_ok gkc_4 ex1) rfl (Nat.le_of_ble_eq_true rfl) dX11_split_15 rfl ?_
    have hf := zIf_s hf
    refine zr_if_ne (pc := 18) (tgt := 24) h dX11_split_18 rfl (fun b5 => ?_) (fun b5 => ?_)
    · have hf := hf.2 b5
      refine zr_iload_n (pc := 24) h dX11_split_24 rfl rfl ?_
      refine zr_aload_n (pc := 25) h dX11_split_25 rfl rfl ?_
      refine zf_X11_44 (pc := 26) h gkc_0 dX11_split_26 ?_
      refine zf_X11_159 (pc := 29) h gkc_34 dX11_split_29 ?_
      have hf := zIf_s hf
      refine zr_icmp_ne (pc := 32) (tgt := 38) h dX11_split_32 rfl (fun b4 => ?_) (fun b4 => ?_)
      · have hf := hf.2 b4
        refine zr_aload_n (pc := 38) h dX11_split_38 rfl rfl ?_
        refine zf_X11_60 (pc := 39) h gkc_0 dX11_split_39 ?_
        refine zr_aload_n (pc := 42) h dX11_split_42 rfl rfl ?_
        refine zf_X11_44 (pc := 43) h gkc_0 dX11_split_43 ?_
        obtain ⟨μ2, eμ2, hf⟩ := zBd_s hf
        refine zm_X11_112 (pc := 46) h gkc_49 ⟨by decide, by decide⟩ (cX4_save_ok gkc_34 eμ2) rfl (Nat.le_of_ble_eq_true rfl) dX11_split_46 rfl ?_
        refine zr_aload_n (pc := 49) h dX11_split_49 rfl rfl ?_
        refine zf_X11_44 (pc := 50) h gkc_0 dX11_split_50 ?_
        refine zr_iload_n (pc := 53) h dX11_split_53 rfl rfl ?_
        refine zp_X11_159 (pc := 54) h gkc_34 dX11_split_54 ?_
        refine zr_mu h (fun μ3 eμ3 => ?_)
        have hf := zLt_s eμ3 hf
        refine zr_iconst (pc := 57) (v := (1 : Int32)) h dX11_split_57 (by decide) ?_
        exact zr_iret (pc := 58) h dX11_split_58 (zRp hf).1 (zRp hf).2
      · have hf := hf.1 b4
        refine zr_bipush (pc := 35) (v := (-3 : Int32)) h dX11_split_35 (by decide) ?_
        exact zr_iret (pc := 37) h dX11_split_37 (zRp hf).1 (zRp hf).2
    · have hf := hf.1 b5
      refine zr_bipush (pc := 21) (v := (-2 : Int32)) h dX11_split_21 (by decide) ?_
      exact zr_iret (pc := 23) h dX11_split_23 (zRp hf).1 (zRp hf).2

set_option maxRecDepth 100000 in
set_option maxHeartbeats 4000000 in
theorem cX11_word_ok {l : Launch} {g : gG} {a1 : Int32} {a2 : Int32} {a3 : Int32} {μ : gM} {r : Int32} {ν : gM} (hf : fX11_word a1 a2 a3 μ = some (r, ν)) : gMet l g yX11_word cX11_word 5 (some .int) 4 123 [.ref (g.1 + 0), .int a1, .int a2, .int a3] μ (some (.int r)) ν := by
  refine gMet_of (gIni [.ref (g.1 + 0), .int a1, .int a2, .int a3] ++ List.replicate 1 none) (by decide) (gIni_ok _ _) (Nat.le_of_ble_eq_true rfl) (fun K h => ?_)
  show K 0 [some (.ref (g.1 + 0)), some (.int a1), some (.int a2), some (.int a3), none] [] μ
  unfold fX11_word at hf
  refine zr_aload_n (pc := 0) h dX11_word_0 rfl rfl ?_
  refine zf_X11_19 (pc := 1) h gkc_0 dX11_word_1 ?_
  refine zr_iload_n (pc := 4) h dX11_word_4 rfl rfl ?_
  refine zr_iload_n (pc := 5) h dX11_word_5 rfl rfl ?_
  obtain ⟨x1, ex1, hf⟩ := zBd_s hf
  refine zm_X11_213 (pc := 6) h gkc_4 ⟨by decide, by decide⟩ (cX1_isMember_ok gkc_4 ex1) rfl (Nat.le_of_ble_eq_true rfl) dX11_word_6 rfl ?_
  have hf := zIf_s hf
  refine zr_if_eq (pc := 9) (tgt := 24) h dX11_word_9 rfl (fun b8 => ?_) (fun b8 => ?_)
  · have hf := hf.1 b8
    refine zr_bipush (pc := 24) (v := (-2 : Int32)) h dX11_word_24 (by decide) ?_
    exact zr_iret (pc := 26) h dX11_word_26 (zRp hf).1 (zRp hf).2
  · have hf := hf.2 b8
    refine zr_iload_n (pc := 12) h dX11_word_12 rfl rfl ?_
    refine zr_iconst (pc := 13) (v := (1 : Int32)) h dX11_word_13 (by decide) ?_
    have hf := zIf_s hf
    refine zr_icmp_lt (pc := 14) (tgt := 24) h dX11_word_14 rfl (fun b7 => ?_) (fun b7 => ?_)
    · have hf := hf.1 b7
      refine zr_bipush (pc := 24) (v := (-2 : Int32)) h dX11_word_24 (by decide) ?_
      exact zr_iret (pc := 26) h dX11_word_26 (zRp hf).1 (zRp hf).2
    · have hf := hf.2 b7
      refine zr_iload_n (pc := 17) h dX11_word_17 rfl rfl ?_
      refine zr_sipush (pc := 18) (v := (255 : Int32)) h dX11_word_18 (by decide) ?_
      have hf := zIf_s hf
      refine zr_icmp_le (pc := 21) (tgt := 27) h dX11_word_21 rfl (fun b6 => ?_) (fun b6 => ?_)
      · have hf := hf.1 b6
        refine zr_aload_n (pc := 27) h dX11_word_27 rfl rfl ?_
        refine zf_X11_60 (pc := 28) h gkc_0 dX11_word_28 ?_
        refine zr_aload_n (pc := 31) h dX11_word_31 rfl rfl ?_
        refine zf_X11_44 (pc := 32) h gkc_0 dX11_word_32 ?_
        obtain ⟨μ2, eμ2, hf⟩ := zBd_s hf
        refine zm_X11_112 (pc := 35) h gkc_49 ⟨by decide, by decide⟩ (cX4_save_ok gkc_34 eμ2) rfl (Nat.le_of_ble_eq_true rfl) dX11_word_35 rfl ?_
        refine zr_aload_n (pc := 38) h dX11_word_38 rfl rfl ?_
        refine zf_X11_44 (pc := 39) h gkc_0 dX11_word_39 ?_
        refine zf_X11_217 (pc := 42) h gkc_34 dX11_word_42 ?_
        refine zr_iload_n (pc := 45) h dX11_word_45 rfl rfl ?_
        refine zr_bipush (pc := 46) (v := (6 : Int32)) h dX11_word_46 (by decide) ?_
        refine zr_imul (pc := 48) h dX11_word_48 ?_
        refine zr_iload_n (pc := 49) h dX11_word_49 rfl rfl ?_
        refine zr_iadd (pc := 50) h dX11_word_50 ?_
        obtain ⟨q3, hf⟩ := zCk_s hf
        refine zr_iald (pc := 51) h gkc_43 q3 rfl dX11_word_51 ?_
        refine zr_topi h (fun x4 ex4 => ?_)
        have hf := zLt_s ex4 hf
        refine zr_istore (pc := 52) h dX11_word_52 (by decide) rfl ?_
        refine zr_aload_n (pc := 54) h dX11_word_54 rfl rfl ?_
        refine zf_X11_53 (pc := 55) h gkc_0 dX11_word_55 ?_
        refine zr_iload_n (pc := 58) h dX11_word_58 rfl rfl ?_
        refine zr_iload_n (pc := 59) h dX11_word_59 rfl rfl ?_
        refine zr_iload_n (pc := 60) h dX11_word_60 rfl rfl ?_
        obtain ⟨μ5, eμ5, hf⟩ := zBd_s hf
        refine zm_X11_282 (pc := 61) h gkc_48 ⟨by decide, by decide⟩ (cX10_tell_ok gkc_48 eμ5) rfl (Nat.le_of_ble_eq_true rfl) dX11_word_61 rfl ?_
        refine zr_iload (pc := 64) h dX11_word_64 rfl ?_
        exact zr_iret (pc := 66) h dX11_word_66 (zRp hf).1 (zRp hf).2
      · have hf := hf.2 b6
        refine zr_bipush (pc := 24) (v := (-2 : Int32)) h dX11_word_24 (by decide) ?_
        exact zr_iret (pc := 26) h dX11_word_26 (zRp hf).1 (zRp hf).2

set_option maxRecDepth 100000 in
set_option maxHeartbeats 4000000 in
theorem cX11_chance_ok {l : Launch} {g : gG} {a1 : Int32} {a2 : Int32} {μ : gM} {r : Int32} {ν : gM} (hf : fX11_chance a1 a2 μ = some (r, ν)) : gMet l g yX11_chance cX11_chance 3 (some .int) 4 123 [.ref (g.1 + 0), .int a1, .int a2] μ (some (.int r)) ν := by
  refine gMet_of (gIni [.ref (g.1 + 0), .int a1, .int a2] ++ List.replicate 0 none) (by decide) (gIni_ok _ _) (Nat.le_of_ble_eq_true rfl) (fun K h => ?_)
  show K 0 [some (.ref (g.1 + 0)), some (.int a1), some (.int a2)] [] μ
  unfold fX11_chance at hf
  refine zr_aload_n (pc := 0) h dX11_chance_0 rfl rfl ?_
  refine zf_X11_19 (pc := 1) h gkc_0 dX11_chance_1 ?_
  refine zf_X11_97 (pc := 4) h gkc_4 dX11_chance_4 ?_
  have hf := zIf_s hf
  refine zr_if_eq (pc := 7) (tgt := 24) h dX11_chance_7 rfl (fun b7 => ?_) (fun b7 => ?_)
  · have hf := hf.1 b7
    refine zr_bipush (pc := 24) (v := (-2 : Int32)) h dX11_chance_24 (by decide) ?_
    exact zr_iret (pc := 26) h dX11_chance_26 (zRp hf).1 (zRp hf).2
  · have hf := hf.2 b7
    refine zr_iload_n (pc := 10) h dX11_chance_10 rfl rfl ?_
    have hf := zIf_s hf
    refine zr_if_lt (pc := 11) (tgt := 24) h dX11_chance_11 rfl (fun b6 => ?_) (fun b6 => ?_)
    · have hf := hf.1 b6
      refine zr_bipush (pc := 24) (v := (-2 : Int32)) h dX11_chance_24 (by decide) ?_
      exact zr_iret (pc := 26) h dX11_chance_26 (zRp hf).1 (zRp hf).2
    · have hf := hf.2 b6
      refine zr_iload_n (pc := 14) h dX11_chance_14 rfl rfl ?_
      refine zr_bipush (pc := 15) (v := (99 : Int32)) h dX11_chance_15 (by decide) ?_
      have hf := zIf_s hf
      refine zr_icmp_gt (pc := 17) (tgt := 24) h dX11_chance_17 rfl (fun b5 => ?_) (fun b5 => ?_)
      · have hf := hf.1 b5
        refine zr_bipush (pc := 24) (v := (-2 : Int32)) h dX11_chance_24 (by decide) ?_
        exact zr_iret (pc := 26) h dX11_chance_26 (zRp hf).1 (zRp hf).2
      · have hf := hf.2 b5
        refine zr_iload_n (pc := 20) h dX11_chance_20 rfl rfl ?_
        have hf := zIf_s hf
        refine zr_if_ge (pc := 21) (tgt := 27) h dX11_chance_21 rfl (fun b4 => ?_) (fun b4 => ?_)
        · have hf := hf.1 b4
          refine zr_aload_n (pc := 27) h dX11_chance_27 rfl rfl ?_
          refine zf_X11_60 (pc := 28) h gkc_0 dX11_chance_28 ?_
          refine zr_aload_n (pc := 31) h dX11_chance_31 rfl rfl ?_
          refine zf_X11_44 (pc := 32) h gkc_0 dX11_chance_32 ?_
          obtain ⟨μ1, eμ1, hf⟩ := zBd_s hf
          refine zm_X11_112 (pc := 35) h gkc_49 ⟨by decide, by decide⟩ (cX4_save_ok gkc_34 eμ1) rfl (Nat.le_of_ble_eq_true rfl) dX11_chance_35 rfl ?_
          refine zr_aload_n (pc := 38) h dX11_chance_38 rfl rfl ?_
          refine zf_X11_44 (pc := 39) h gkc_0 dX11_chance_39 ?_
          refine zr_iload_n (pc := 42) h dX11_chance_42 rfl rfl ?_
          refine zp_X11_162 (pc := 43) h gkc_34 dX11_chance_43 ?_
          refine zr_mu h (fun μ2 eμ2 => ?_)
          have hf := zLt_s eμ2 hf
          refine zr_aload_n (pc := 46) h dX11_chance_46 rfl rfl ?_
          refine zf_X11_44 (pc := 47) h gkc_0 dX11_chance_47 ?_
          refine zr_iload_n (pc := 50) h dX11_chance_50 rfl rfl ?_
          refine zp_X11_165 (pc := 51) h gkc_34 dX11_chance_51 ?_
          refine zr_mu h (fun μ3 eμ3 => ?_)
          have hf := zLt_s eμ3 hf
          refine zr_iconst (pc := 54) (v := (1 : Int32)) h dX11_chance_54 (by decide) ?_
          exact zr_iret (pc := 55) h dX11_chance_55 (zRp hf).1 (zRp hf).2
        · have hf := hf.2 b4
          refine zr_bipush (pc := 24) (v := (-2 : Int32)) h dX11_chance_24 (by decide) ?_
          exact zr_iret (pc := 26) h dX11_chance_26 (zRp hf).1 (zRp hf).2

set_option maxRecDepth 100000 in
set_option maxHeartbeats 4000000 in
theorem cX11_isPair_ok {l : Launch} {g : gG} {a1 : Int32} {a2 : Int32} {μ : gM} {r : Int32} (hf : fX11_isPair a1 a2 μ = some r) : gMet l g yX11_isPair cX11_isPair 3 (some .boolean) 1 22 [.ref (g.1 + 0), .int a1, .int a2] μ (some (.int r)) μ := by
  refine gMet_of (gIni [.ref (g.1 + 0), .int a1, .int a2] ++ List.replicate 0 none) (by decide) (gIni_ok _ _) (Nat.le_of_ble_eq_true rfl) (fun K h => ?_)
  show K 0 [some (.ref (g.1 + 0)), some (.int a1), some (.int a2)] [] μ
  unfold fX11_isPair at hf
  refine zr_aload_n (pc := 0) h dX11_isPair_0 rfl rfl ?_
  refine zf_X11_19 (pc := 1) h gkc_0 dX11_isPair_1 ?_
  refine zr_iload_n (pc := 4) h dX11_isPair_4 rfl rfl ?_
  obtain ⟨x1, ex1, hf⟩ := zBd_s hf
  refine zm_X11_182 (pc := 5) h gkc_4 ⟨by decide, by decide⟩ (cX1_isGroup_ok gkc_4 ex1) rfl (Nat.le_of_ble_eq_true rfl) dX11_isPair_5 rfl ?_
  have hf := zIf_s hf
  refine zr_if_eq (pc := 8) (tgt := 27) h dX11_isPair_8 rfl (fun b4 => ?_) (fun b4 => ?_)
  · have hf := hf.1 b4
    refine zr_iconst (pc := 27) (v := (0 : Int32)) h dX11_isPair_27 (by decide) ?_
    exact zr_zret (pc := 28) h rfl dX11_isPair_28 (zRi hf) rfl
  · have hf := hf.2 b4
    refine zr_aload_n (pc := 11) h dX11_isPair_11 rfl rfl ?_
    refine zf_X11_19 (pc := 12) h gkc_0 dX11_isPair_12 ?_
    refine zr_iconst (pc := 15) (v := (0 : Int32)) h dX11_isPair_15 (by decide) ?_
    refine zr_iload_n (pc := 16) h dX11_isPair_16 rfl rfl ?_
    obtain ⟨x2, ex2, hf⟩ := zBd_s hf
    refine zm_X11_242 (pc := 17) h gkc_4 ⟨by decide, by decide⟩ (cX1_isThere_ok gkc_4 ex2) rfl (Nat.le_of_ble_eq_true rfl) dX11_isPair_17 rfl ?_
    have hf := zIf_s hf
    refine zr_if_eq (pc := 20) (tgt := 27) h dX11_isPair_20 rfl (fun b3 => ?_) (fun b3 => ?_)
    · have hf := hf.1 b3
      refine zr_iconst (pc := 27) (v := (0 : Int32)) h dX11_isPair_27 (by decide) ?_
      exact zr_zret (pc := 28) h rfl dX11_isPair_28 (zRi hf) rfl
    · have hf := hf.2 b3
      refine zr_iconst (pc := 23) (v := (1 : Int32)) h dX11_isPair_23 (by decide) ?_
      refine zr_goto (pc := 24) (tgt := 28) h dX11_isPair_24 rfl ?_
      exact zr_zret (pc := 28) h rfl dX11_isPair_28 (zRi hf) rfl

set_option maxRecDepth 100000 in
set_option maxHeartbeats 4000000 in
theorem cX11_holder_ok {l : Launch} {g : gG} {a1 : Int32} {a2 : Int32} {μ : gM} {r : Int32} (hf : fX11_holder a1 a2 μ = some r) : gMet l g yX11_holder cX11_holder 3 (some .int) 2 47 [.ref (g.1 + 0), .int a1, .int a2] μ (some (.int r)) μ := by
  refine gMet_of (gIni [.ref (g.1 + 0), .int a1, .int a2] ++ List.replicate 0 none) (by decide) (gIni_ok _ _) (Nat.le_of_ble_eq_true rfl) (fun K h => ?_)
  show K 0 [some (.ref (g.1 + 0)), some (.int a1), some (.int a2)] [] μ
  unfold fX11_holder at hf
  refine zr_aload_n (pc := 0) h dX11_holder_0 rfl rfl ?_
  refine zr_iload_n (pc := 1) h dX11_holder_1 rfl rfl ?_
  refine zr_iload_n (pc := 2) h dX11_holder_2 rfl rfl ?_
  obtain ⟨x1, ex1, hf⟩ := zBd_s hf
  refine zm_X11_286 (pc := 3) h gkc_0 ⟨by decide, by decide⟩ (cX11_isPair_ok ex1) rfl (Nat.le_of_ble_eq_true rfl) dX11_holder_3 rfl ?_
  have hf := zIf_s hf
  refine zr_if_eq (pc := 6) (tgt := 21) h dX11_holder_6 rfl (fun b3 => ?_) (fun b3 => ?_)
  · have hf := hf.1 b3
    refine zr_iconst (pc := 21) (v := (-1 : Int32)) h dX11_holder_21 (by decide) ?_
    exact zr_iret (pc := 22) h dX11_holder_22 (zRi hf) rfl
  · have hf := hf.2 b3
    refine zr_aload_n (pc := 9) h dX11_holder_9 rfl rfl ?_
    refine zf_X11_44 (pc := 10) h gkc_0 dX11_holder_10 ?_
    refine zr_iload_n (pc := 13) h dX11_holder_13 rfl rfl ?_
    refine zr_iload_n (pc := 14) h dX11_holder_14 rfl rfl ?_
    obtain ⟨x2, ex2, hf⟩ := zBd_s hf
    refine zm_X11_289 (pc := 15) h gkc_34 ⟨by decide, by decide⟩ (cX9_holderBeside_ok gkc_34 ex2) rfl (Nat.le_of_ble_eq_true rfl) dX11_holder_15 rfl ?_
    refine zr_goto (pc := 18) (tgt := 22) h dX11_holder_18 rfl ?_
    exact zr_iret (pc := 22) h dX11_holder_22 (zRi hf) rfl

set_option maxRecDepth 100000 in
set_option maxHeartbeats 4000000 in
theorem fX11_doubles_l16_ok {l : Launch} {g : gG} {r : Int32} {μe : gM} {K : gKt} (h : gR l g cX11_doubles RX11 3 (some .int) (gRm 2 42) (some (.int r)) μe K) : ∀ (n : Nat) (y1 : Int32) (y2 : Int32), fX11_doubles_l16 n y1 y2 μe = some r → K 16 [some (.ref (g.1 + 0)), some (.int y1), some (.int y2)] [] μe := by
  intro n
  induction n with
  | zero =>
    intro y1 y2 hf
    cases (show (none : Option Int32) = some _ from hf)
  | succ n ih =>
    intro y1 y2 hf
    unfold fX11_doubles_l16 at hf
    refine zr_iload_n (pc := 16) h dX11_doubles_16 rfl rfl ?_
    refine zr_iconst (pc := 17) (v := (5 : Int32)) h dX11_doubles_17 (by decide) ?_
    have hf := zIf_s hf
    refine zr_icmp_ge (pc := 18) (tgt := 48) h dX11_doubles_18 rfl (fun b7 => ?_) (fun b7 => ?_)
    · have hf := hf.1 b7
      refine zr_iload_n (pc := 48) h dX11_doubles_48 rfl rfl ?_
      exact zr_iret (pc := 49) h dX11_doubles_49 (zRi hf) rfl
    · have hf := hf.2 b7
      refine zr_iload_n (pc := 21) h dX11_doubles_21 rfl rfl ?_
      refine zr_aload_n (pc := 22) h dX11_doubles_22 rfl rfl ?_
      refine zf_X11_44 (pc := 23) h gkc_0 dX11_doubles_23 ?_
      refine zr_iload_n (pc := 26) h dX11_doubles_26 rfl rfl ?_
      obtain ⟨x1, ex1, hf⟩ := zBd_s hf
      refine zm_X11_292 (pc := 27) h gkc_34 ⟨by decide, by decide⟩ (cX9_isDouble_ok gkc_34 ex1) rfl (Nat.le_of_ble_eq_true rfl) dX11_doubles_27 rfl ?_
      have hf := zIf_s hf
      refine zr_if_eq (pc := 30) (tgt := 39) h dX11_doubles_30 rfl (fun b6 => ?_) (fun b6 => ?_)
      · have hf := hf.1 b6
        refine zr_iconst (pc := 39) (v := (0 : Int32)) h dX11_doubles_39 (by decide) ?_
        refine zr_ior (pc := 40) h dX11_doubles_40 ?_
        refine zr_topi h (fun x2 ex2 => ?_)
        have hf := zLt_s ex2 hf
        refine zr_istore_n (pc := 41) h dX11_doubles_41 rfl (by decide) rfl ?_
        refine zr_iincx (pc := 42) h dX11_doubles_42 rfl (by decide) rfl (c := (1 : Int32)) (by decide) (fun x3 ex3 => ?_)
        have hf := zLt_s ex3 hf
        refine zr_goto (pc := 45) (tgt := 16) h dX11_doubles_45 rfl ?_
        exact zr_weak h [true, true, true] (ih _ _ hf)
      · have hf := hf.2 b6
        refine zr_iconst (pc := 33) (v := (1 : Int32)) h dX11_doubles_33 (by decide) ?_
        refine zr_iload_n (pc := 34) h dX11_doubles_34 rfl rfl ?_
        refine zr_ishl (pc := 35) h dX11_doubles_35 ?_
        refine zr_goto (pc := 36) (tgt := 40) h dX11_doubles_36 rfl ?_
        refine zr_ior (pc := 40) h dX11_doubles_40 ?_
        refine zr_topi h (fun x4 ex4 => ?_)
        have hf := zLt_s ex4 hf
        refine zr_istore_n (pc := 41) h dX11_doubles_41 rfl (by decide) rfl ?_
        refine zr_iincx (pc := 42) h dX11_doubles_42 rfl (by decide) rfl (c := (1 : Int32)) (by decide) (fun x5 ex5 => ?_)
        have hf := zLt_s ex5 hf
        refine zr_goto (pc := 45) (tgt := 16) h dX11_doubles_45 rfl ?_
        exact zr_weak h [true, true, true] (ih _ _ hf)

set_option maxRecDepth 100000 in
set_option maxHeartbeats 4000000 in
theorem cX11_doubles_ok {l : Launch} {g : gG} {μ : gM} {r : Int32} (hf : fX11_doubles μ = some r) : gMet l g yX11_doubles cX11_doubles 3 (some .int) 2 42 [.ref (g.1 + 0)] μ (some (.int r)) μ := by
  refine gMet_of (gIni [.ref (g.1 + 0)] ++ List.replicate 2 none) (by decide) (gIni_ok _ _) (Nat.le_of_ble_eq_true rfl) (fun K h => ?_)
  show K 0 [some (.ref (g.1 + 0)), none, none] [] μ
  unfold fX11_doubles at hf
  refine zr_aload_n (pc := 0) h dX11_doubles_0 rfl rfl ?_
  refine zf_X11_19 (pc := 1) h gkc_0 dX11_doubles_1 ?_
  refine zf_X11_97 (pc := 4) h gkc_4 dX11_doubles_4 ?_
  have hf := zIf_s hf
  refine zr_if_ne (pc := 7) (tgt := 12) h dX11_doubles_7 rfl (fun b8 => ?_) (fun b8 => ?_)
  · have hf := hf.2 b8
    refine zr_iconst (pc := 12) (v := (0 : Int32)) h dX11_doubles_12 (by decide) ?_
    refine zr_istore_n (pc := 13) h dX11_doubles_13 rfl (by decide) rfl ?_
    refine zr_iconst (pc := 14) (v := (0 : Int32)) h dX11_doubles_14 (by decide) ?_
    refine zr_istore_n (pc := 15) h dX11_doubles_15 rfl (by decide) rfl ?_
    exact zr_weak h [true, true, true] (fX11_doubles_l16_ok h 100000 _ _ hf)
  · have hf := hf.1 b8
    refine zr_iconst (pc := 10) (v := (-1 : Int32)) h dX11_doubles_10 (by decide) ?_
    exact zr_iret (pc := 11) h dX11_doubles_11 (zRi hf) rfl

set_option maxRecDepth 100000 in
set_option maxHeartbeats 4000000 in
theorem fX11_orphans_n58_ok {l : Launch} {g : gG} {k16 : Int32 → Int32 → gM → Option Int32} {r : Int32} {μe : gM} {K : gKt} (h : gR l g cX11_orphans RX11 4 (some .int) (gRm 0 0) (some (.int r)) μe K) (hk16 : ∀ (y1 : Int32) (y2 : Int32), k16 y1 y2 μe = some r → K 16 [some (.ref (g.1 + 0)), some (.int y1), some (.int y2), none] [] μe) {y1 : Int32} {y2 : Int32} {z0 : Int32} (hf : fX11_orphans_n58 k16 y1 y2 z0 μe = some r) : K 58 [some (.ref (g.1 + 0)), some (.int y1), some (.int y2), none] [.int z0] μe := by
  unfold fX11_orphans_n58 at hf
  refine zr_istore_n (pc := 58) h dX11_orphans_58 rfl (by decide) rfl ?_
  refine zr_iload_n (pc := 59) h dX11_orphans_59 rfl rfl ?_
  refine zr_iload_n (pc := 60) h dX11_orphans_60 rfl rfl ?_
  have hf := zIf_s hf
  refine zr_if_eq (pc := 61) (tgt := 70) h dX11_orphans_61 rfl (fun b6 => ?_) (fun b6 => ?_)
  · have hf := hf.1 b6
    refine zr_iconst (pc := 70) (v := (0 : Int32)) h dX11_orphans_70 (by decide) ?_
    refine zr_ior (pc := 71) h dX11_orphans_71 ?_
    refine zr_topi h (fun x2 ex2 => ?_)
    have hf := zLt_s ex2 hf
    refine zr_istore_n (pc := 72) h dX11_orphans_72 rfl (by decide) rfl ?_
    refine zr_iincx (pc := 73) h dX11_orphans_73 rfl (by decide) rfl (c := (1 : Int32)) (by decide) (fun x3 ex3 => ?_)
    have hf := zLt_s ex3 hf
    refine zr_goto (pc := 76) (tgt := 16) h dX11_orphans_76 rfl ?_
    exact zr_weak h [true, true, true, false] (hk16 _ _ hf)
  · have hf := hf.2 b6
    refine zr_iconst (pc := 64) (v := (1 : Int32)) h dX11_orphans_64 (by decide) ?_
    refine zr_iload_n (pc := 65) h dX11_orphans_65 rfl rfl ?_
    refine zr_ishl (pc := 66) h dX11_orphans_66 ?_
    refine zr_goto (pc := 67) (tgt := 71) h dX11_orphans_67 rfl ?_
    refine zr_ior (pc := 71) h dX11_orphans_71 ?_
    refine zr_topi h (fun x4 ex4 => ?_)
    have hf := zLt_s ex4 hf
    refine zr_istore_n (pc := 72) h dX11_orphans_72 rfl (by decide) rfl ?_
    refine zr_iincx (pc := 73) h dX11_orphans_73 rfl (by decide) rfl (c := (1 : Int32)) (by decide) (fun x5 ex5 => ?_)
    have hf := zLt_s ex5 hf
    refine zr_goto (pc := 76) (tgt := 16) h dX11_orphans_76 rfl ?_
    exact zr_weak h [true, true, true, false] (hk16 _ _ hf)

set_option maxRecDepth 100000 in
set_option maxHeartbeats 4000000 in
theorem fX11_orphans_l16_ok {l : Launch} {g : gG} {r : Int32} {μe : gM} {K : gKt} (h : gR l g cX11_orphans RX11 4 (some .int) (gRm 0 0) (some (.int r)) μe K) : ∀ (n : Nat) (y1 : Int32) (y2 : Int32), fX11_orphans_l16 n y1 y2 μe = some r → K 16 [some (.ref (g.1 + 0)), some (.int y1), some (.int y2), none] [] μe := by
  intro n
  induction n with
  | zero =>
    intro y1 y2 hf
    cases (show (none : Option Int32) = some _ from hf)
  | succ n ih =>
    intro y1 y2 hf
    unfold fX11_orphans_l16 at hf
    refine zr_iload_n (pc := 16) h dX11_orphans_16 rfl rfl ?_
    refine zr_iconst (pc := 17) (v := (5 : Int32)) h dX11_orphans_17 (by decide) ?_
    have hf := zIf_s hf
    refine zr_icmp_ge (pc := 18) (tgt := 79) h dX11_orphans_18 rfl (fun b10 => ?_) (fun b10 => ?_)
    · have hf := hf.1 b10
      refine zr_iload_n (pc := 79) h dX11_orphans_79 rfl rfl ?_
      exact zr_iret (pc := 80) h dX11_orphans_80 (zRi hf) rfl
    · have hf := hf.2 b10
      refine zr_aload_n (pc := 21) h dX11_orphans_21 rfl rfl ?_
      refine zf_X11_44 (pc := 22) h gkc_0 dX11_orphans_22 ?_
      refine zf_X11_210 (pc := 25) h gkc_34 dX11_orphans_25 ?_
      refine zr_iload_n (pc := 28) h dX11_orphans_28 rfl rfl ?_
      obtain ⟨q1, hf⟩ := zCk_s hf
      refine zr_iald (pc := 29) h gkc_39 q1 rfl dX11_orphans_29 ?_
      have hf := zIf_s hf
      refine zr_if_ne (pc := 30) (tgt := 57) h dX11_orphans_30 rfl (fun b9 => ?_) (fun b9 => ?_)
      · have hf := hf.2 b9
        refine zr_iconst (pc := 57) (v := (0 : Int32)) h dX11_orphans_57 (by decide) ?_
        exact zr_weak h [true, true, true, false] (fX11_orphans_n58_ok h ih hf)
      · have hf := hf.1 b9
        refine zr_aload_n (pc := 33) h dX11_orphans_33 rfl rfl ?_
        refine zf_X11_19 (pc := 34) h gkc_0 dX11_orphans_34 ?_
        refine zf_X11_198 (pc := 37) h gkc_4 dX11_orphans_37 ?_
        refine zr_iload_n (pc := 40) h dX11_orphans_40 rfl rfl ?_
        obtain ⟨q7, hf⟩ := zCk_s hf
        refine zr_iald (pc := 41) h gkc_11 q7 rfl dX11_orphans_41 ?_
        refine zr_aload_n (pc := 42) h dX11_orphans_42 rfl rfl ?_
        refine zf_X11_44 (pc := 43) h gkc_0 dX11_orphans_43 ?_
        refine zf_X11_153 (pc := 46) h gkc_34 dX11_orphans_46 ?_
        refine zr_iand (pc := 49) h dX11_orphans_49 ?_
        have hf := zIf_s hf
        refine zr_if_eq (pc := 50) (tgt := 57) h dX11_orphans_50 rfl (fun b8 => ?_) (fun b8 => ?_)
        · have hf := hf.1 b8
          refine zr_iconst (pc := 57) (v := (0 : Int32)) h dX11_orphans_57 (by decide) ?_
          exact zr_weak h [true, true, true, false] (fX11_orphans_n58_ok h ih hf)
        · have hf := hf.2 b8
          refine zr_iconst (pc := 53) (v := (1 : Int32)) h dX11_orphans_53 (by decide) ?_
          refine zr_goto (pc := 54) (tgt := 58) h dX11_orphans_54 rfl ?_
          exact zr_weak h [true, true, true, false] (fX11_orphans_n58_ok h ih hf)

set_option maxRecDepth 100000 in
set_option maxHeartbeats 4000000 in
theorem cX11_orphans_ok {l : Launch} {g : gG} {μ : gM} {r : Int32} (hf : fX11_orphans μ = some r) : gMet l g yX11_orphans cX11_orphans 4 (some .int) 0 0 [.ref (g.1 + 0)] μ (some (.int r)) μ := by
  refine gMet_of (gIni [.ref (g.1 + 0)] ++ List.replicate 3 none) (by decide) (gIni_ok _ _) (Nat.le_of_ble_eq_true rfl) (fun K h => ?_)
  show K 0 [some (.ref (g.1 + 0)), none, none, none] [] μ
  unfold fX11_orphans at hf
  refine zr_aload_n (pc := 0) h dX11_orphans_0 rfl rfl ?_
  refine zf_X11_19 (pc := 1) h gkc_0 dX11_orphans_1 ?_
  refine zf_X11_97 (pc := 4) h gkc_4 dX11_orphans_4 ?_
  have hf := zIf_s hf
  refine zr_if_ne (pc := 7) (tgt := 12) h dX11_orphans_7 rfl (fun b11 => ?_) (fun b11 => ?_)
  · have hf := hf.2 b11
    refine zr_iconst (pc := 12) (v := (0 : Int32)) h dX11_orphans_12 (by decide) ?_
    refine zr_istore_n (pc := 13) h dX11_orphans_13 rfl (by decide) rfl ?_
    refine zr_iconst (pc := 14) (v := (0 : Int32)) h dX11_orphans_14 (by decide) ?_
    refine zr_istore_n (pc := 15) h dX11_orphans_15 rfl (by decide) rfl ?_
    exact zr_weak h [true, true, true, false] (fX11_orphans_l16_ok h 100000 _ _ hf)
  · have hf := hf.1 b11
    refine zr_iconst (pc := 10) (v := (-1 : Int32)) h dX11_orphans_10 (by decide) ?_
    exact zr_iret (pc := 11) h dX11_orphans_11 (zRi hf) rfl

set_option maxRecDepth 100000 in
set_option maxHeartbeats 4000000 in
theorem fX11_holds_l18_ok {l : Launch} {g : gG} {r : Int32} {μe : gM} {K : gKt} (h : gR l g cX11_holds RX11 4 (some .int) (gRm 1 22) (some (.int r)) μe K) : ∀ (n : Nat) (y1 : Int32) (y2 : Int32) (y3 : Int32), fX11_holds_l18 n y1 y2 y3 μe = some r → K 18 [some (.ref (g.1 + 0)), some (.int y1), some (.int y2), some (.int y3)] [] μe := by
  intro n
  induction n with
  | zero =>
    intro y1 y2 y3 hf
    cases (show (none : Option Int32) = some _ from hf)
  | succ n ih =>
    intro y1 y2 y3 hf
    unfold fX11_holds_l18 at hf
    refine zr_iload_n (pc := 18) h dX11_holds_18 rfl rfl ?_
    refine zr_iconst (pc := 19) (v := (5 : Int32)) h dX11_holds_19 (by decide) ?_
    have hf := zIf_s hf
    refine zr_icmp_ge (pc := 20) (tgt := 47) h dX11_holds_20 rfl (fun b5 => ?_) (fun b5 => ?_)
    · have hf := hf.1 b5
      refine zr_iload_n (pc := 47) h dX11_holds_47 rfl rfl ?_
      exact zr_iret (pc := 48) h dX11_holds_48 (zRi hf) rfl
    · have hf := hf.2 b5
      refine zr_iload_n (pc := 23) h dX11_holds_23 rfl rfl ?_
      refine zr_aload_n (pc := 24) h dX11_holds_24 rfl rfl ?_
      refine zf_X11_44 (pc := 25) h gkc_0 dX11_holds_25 ?_
      refine zf_X11_210 (pc := 28) h gkc_34 dX11_holds_28 ?_
      refine zr_iload_n (pc := 31) h dX11_holds_31 rfl rfl ?_
      obtain ⟨q2, hf⟩ := zCk_s hf
      refine zr_iald (pc := 32) h gkc_39 q2 rfl dX11_holds_32 ?_
      refine zr_iload_n (pc := 33) h dX11_holds_33 rfl rfl ?_
      refine zr_ishr (pc := 34) h dX11_holds_34 ?_
      refine zr_iconst (pc := 35) (v := (1 : Int32)) h dX11_holds_35 (by decide) ?_
      refine zr_iand (pc := 36) h dX11_holds_36 ?_
      refine zr_iload_n (pc := 37) h dX11_holds_37 rfl rfl ?_
      refine zr_ishl (pc := 38) h dX11_holds_38 ?_
      refine zr_ior (pc := 39) h dX11_holds_39 ?_
      refine zr_topi h (fun x3 ex3 => ?_)
      have hf := zLt_s ex3 hf
      refine zr_istore_n (pc := 40) h dX11_holds_40 rfl (by decide) rfl ?_
      refine zr_iincx (pc := 41) h dX11_holds_41 rfl (by decide) rfl (c := (1 : Int32)) (by decide) (fun x4 ex4 => ?_)
      have hf := zLt_s ex4 hf
      refine zr_goto (pc := 44) (tgt := 18) h dX11_holds_44 rfl ?_
      exact zr_weak h [true, true, true, true] (ih _ _ _ hf)

set_option maxRecDepth 100000 in
set_option maxHeartbeats 4000000 in
theorem cX11_holds_ok {l : Launch} {g : gG} {a1 : Int32} {μ : gM} {r : Int32} (hf : fX11_holds a1 μ = some r) : gMet l g yX11_holds cX11_holds 4 (some .int) 1 22 [.ref (g.1 + 0), .int a1] μ (some (.int r)) μ := by
  refine gMet_of (gIni [.ref (g.1 + 0), .int a1] ++ List.replicate 2 none) (by decide) (gIni_ok _ _) (Nat.le_of_ble_eq_true rfl) (fun K h => ?_)
  show K 0 [some (.ref (g.1 + 0)), some (.int a1), none, none] [] μ
  unfold fX11_holds at hf
  refine zr_aload_n (pc := 0) h dX11_holds_0 rfl rfl ?_
  refine zf_X11_19 (pc := 1) h gkc_0 dX11_holds_1 ?_
  refine zr_iconst (pc := 4) (v := (0 : Int32)) h dX11_holds_4 (by decide) ?_
  refine zr_iload_n (pc := 5) h dX11_holds_5 rfl rfl ?_
  obtain ⟨x1, ex1, hf⟩ := zBd_s hf
  refine zm_X11_242 (pc := 6) h gkc_4 ⟨by decide, by decide⟩ (cX1_isThere_ok gkc_4 ex1) rfl (Nat.le_of_ble_eq_true rfl) dX11_holds_6 rfl ?_
  have hf := zIf_s hf
  refine zr_if_ne (pc := 9) (tgt := 14) h dX11_holds_9 rfl (fun b6 => ?_) (fun b6 => ?_)
  · have hf := hf.2 b6
    refine zr_iconst (pc := 14) (v := (0 : Int32)) h dX11_holds_14 (by decide) ?_
    refine zr_istore_n (pc := 15) h dX11_holds_15 rfl (by decide) rfl ?_
    refine zr_iconst (pc := 16) (v := (0 : Int32)) h dX11_holds_16 (by decide) ?_
    refine zr_istore_n (pc := 17) h dX11_holds_17 rfl (by decide) rfl ?_
    exact zr_weak h [true, true, true, true] (fX11_holds_l18_ok h 100000 _ _ _ hf)
  · have hf := hf.1 b6
    refine zr_iconst (pc := 12) (v := (-1 : Int32)) h dX11_holds_12 (by decide) ?_
    exact zr_iret (pc := 13) h dX11_holds_13 (zRi hf) rfl

set_option maxRecDepth 100000 in
set_option maxHeartbeats 4000000 in
theorem cX11_slot_ok {l : Launch} {g : gG} {a1 : Int32} {a2 : Int32} {a3 : Int32} {μ : gM} {r : Int32} {ν : gM} (hf : fX11_slot a1 a2 a3 μ = some (r, ν)) : gMet l g yX11_slot cX11_slot 4 (some .int) 2 53 [.ref (g.1 + 0), .int a1, .int a2, .int a3] μ (some (.int r)) ν := by
  refine gMet_of (gIni [.ref (g.1 + 0), .int a1, .int a2, .int a3] ++ List.replicate 0 none) (by decide) (gIni_ok _ _) (Nat.le_of_ble_eq_true rfl) (fun K h => ?_)
  show K 0 [some (.ref (g.1 + 0)), some (.int a1), some (.int a2), some (.int a3)] [] μ
  unfold fX11_slot at hf
  refine zr_aload_n (pc := 0) h dX11_slot_0 rfl rfl ?_
  refine zr_iload_n (pc := 1) h dX11_slot_1 rfl rfl ?_
  refine zr_iload_n (pc := 2) h dX11_slot_2 rfl rfl ?_
  obtain ⟨x1, ex1, hf⟩ := zBd_s hf
  refine zm_X11_286 (pc := 3) h gkc_0 ⟨by decide, by decide⟩ (cX11_isPair_ok ex1) rfl (Nat.le_of_ble_eq_true rfl) dX11_slot_3 rfl ?_
  have hf := zIf_s hf
  refine zr_if_eq (pc := 6) (tgt := 26) h dX11_slot_6 rfl (fun b7 => ?_) (fun b7 => ?_)
  · have hf := hf.1 b7
    refine zr_iconst (pc := 26) (v := (-1 : Int32)) h dX11_slot_26 (by decide) ?_
    exact zr_iret (pc := 27) h dX11_slot_27 (zRp hf).1 (zRp hf).2
  · have hf := hf.2 b7
    refine zr_iload_n (pc := 9) h dX11_slot_9 rfl rfl ?_
    have hf := zIf_s hf
    refine zr_if_lt (pc := 10) (tgt := 26) h dX11_slot_10 rfl (fun b6 => ?_) (fun b6 => ?_)
    · have hf := hf.1 b6
      refine zr_iconst (pc := 26) (v := (-1 : Int32)) h dX11_slot_26 (by decide) ?_
      exact zr_iret (pc := 27) h dX11_slot_27 (zRp hf).1 (zRp hf).2
    · have hf := hf.2 b6
      refine zr_iload_n (pc := 13) h dX11_slot_13 rfl rfl ?_
      refine zr_aload_n (pc := 14) h dX11_slot_14 rfl rfl ?_
      refine zf_X11_19 (pc := 15) h gkc_0 dX11_slot_15 ?_
      refine zf_X11_195 (pc := 18) h gkc_4 dX11_slot_18 ?_
      refine zr_iload_n (pc := 21) h dX11_slot_21 rfl rfl ?_
      obtain ⟨q2, hf⟩ := zCk_s hf
      refine zr_iald (pc := 22) h gkc_10 q2 rfl dX11_slot_22 ?_
      have hf := zIf_s hf
      refine zr_icmp_lt (pc := 23) (tgt := 28) h dX11_slot_23 rfl (fun b5 => ?_) (fun b5 => ?_)
      · have hf := hf.1 b5
        refine zr_aload_n (pc := 28) h dX11_slot_28 rfl rfl ?_
        refine zf_X11_74 (pc := 29) h gkc_0 dX11_slot_29 ?_
        refine zr_iload_n (pc := 32) h dX11_slot_32 rfl rfl ?_
        refine zr_iload_n (pc := 33) h dX11_slot_33 rfl rfl ?_
        obtain ⟨μ3, eμ3, hf⟩ := zBd_s hf
        refine zm_X11_295 (pc := 34) h gkc_264 ⟨by decide, by decide⟩ (cX8_lay_ok eμ3) rfl (Nat.le_of_ble_eq_true rfl) dX11_slot_34 rfl ?_
        refine zr_aload_n (pc := 37) h dX11_slot_37 rfl rfl ?_
        refine zf_X11_74 (pc := 38) h gkc_0 dX11_slot_38 ?_
        refine zr_iload_n (pc := 41) h dX11_slot_41 rfl rfl ?_
        obtain ⟨x4, ex4, hf⟩ := zBd_s hf
        refine zm_X11_299 (pc := 42) h gkc_264 ⟨by decide, by decide⟩ (cX8_ownerOf_ok ex4) rfl (Nat.le_of_ble_eq_true rfl) dX11_slot_42 rfl ?_
        exact zr_iret (pc := 45) h dX11_slot_45 (zRp hf).1 (zRp hf).2
      · have hf := hf.2 b5
        refine zr_iconst (pc := 26) (v := (-1 : Int32)) h dX11_slot_26 (by decide) ?_
        exact zr_iret (pc := 27) h dX11_slot_27 (zRp hf).1 (zRp hf).2

set_option maxRecDepth 100000 in
set_option maxHeartbeats 4000000 in
theorem cX11_slots_ok {l : Launch} {g : gG} {a1 : Int32} {a2 : Int32} {μ : gM} {r : Int32} {ν : gM} (hf : fX11_slots a1 a2 μ = some (r, ν)) : gMet l g yX11_slots cX11_slots 3 (some .int) 2 53 [.ref (g.1 + 0), .int a1, .int a2] μ (some (.int r)) ν := by
  refine gMet_of (gIni [.ref (g.1 + 0), .int a1, .int a2] ++ List.replicate 0 none) (by decide) (gIni_ok _ _) (Nat.le_of_ble_eq_true rfl) (fun K h => ?_)
  show K 0 [some (.ref (g.1 + 0)), some (.int a1), some (.int a2)] [] μ
  unfold fX11_slots at hf
  refine zr_aload_n (pc := 0) h dX11_slots_0 rfl rfl ?_
  refine zr_iload_n (pc := 1) h dX11_slots_1 rfl rfl ?_
  refine zr_iload_n (pc := 2) h dX11_slots_2 rfl rfl ?_
  obtain ⟨x1, ex1, hf⟩ := zBd_s hf
  refine zm_X11_286 (pc := 3) h gkc_0 ⟨by decide, by decide⟩ (cX11_isPair_ok ex1) rfl (Nat.le_of_ble_eq_true rfl) dX11_slots_3 rfl ?_
  have hf := zIf_s hf
  refine zr_if_ne (pc := 6) (tgt := 11) h dX11_slots_6 rfl (fun b4 => ?_) (fun b4 => ?_)
  · have hf := hf.2 b4
    refine zr_aload_n (pc := 11) h dX11_slots_11 rfl rfl ?_
    refine zf_X11_74 (pc := 12) h gkc_0 dX11_slots_12 ?_
    refine zr_iload_n (pc := 15) h dX11_slots_15 rfl rfl ?_
    refine zr_iload_n (pc := 16) h dX11_slots_16 rfl rfl ?_
    obtain ⟨μ2, eμ2, hf⟩ := zBd_s hf
    refine zm_X11_295 (pc := 17) h gkc_264 ⟨by decide, by decide⟩ (cX8_lay_ok eμ2) rfl (Nat.le_of_ble_eq_true rfl) dX11_slots_17 rfl ?_
    refine zr_aload_n (pc := 20) h dX11_slots_20 rfl rfl ?_
    refine zf_X11_74 (pc := 21) h gkc_0 dX11_slots_21 ?_
    refine zf_X11_302 (pc := 24) h gkc_264 dX11_slots_24 ?_
    refine zr_iload_n (pc := 27) h dX11_slots_27 rfl rfl ?_
    obtain ⟨q3, hf⟩ := zCk_s hf
    refine zr_iald (pc := 28) h gkc_266 q3 rfl dX11_slots_28 ?_
    exact zr_iret (pc := 29) h dX11_slots_29 (zRp hf).1 (zRp hf).2
  · have hf := hf.1 b4
    refine zr_iconst (pc := 9) (v := (-1 : Int32)) h dX11_slots_9 (by decide) ?_
    exact zr_iret (pc := 10) h dX11_slots_10 (zRp hf).1 (zRp hf).2

set_option maxRecDepth 100000 in
set_option maxHeartbeats 4000000 in
theorem cX11_host_ok {l : Launch} {g : gG} {a1 : Int32} {a2 : Int32} {a3 : Int32} {μ : gM} {r : Int32} {ν : gM} (hf : fX11_host a1 a2 a3 μ = some (r, ν)) : gMet l g yX11_host cX11_host 4 (some .int) 2 53 [.ref (g.1 + 0), .int a1, .int a2, .int a3] μ (some (.int r)) ν := by
  refine gMet_of (gIni [.ref (g.1 + 0), .int a1, .int a2, .int a3] ++ List.replicate 0 none) (by decide) (gIni_ok _ _) (Nat.le_of_ble_eq_true rfl) (fun K h => ?_)
  show K 0 [some (.ref (g.1 + 0)), some (.int a1), some (.int a2), some (.int a3)] [] μ
  unfold fX11_host at hf
  refine zr_aload_n (pc := 0) h dX11_host_0 rfl rfl ?_
  refine zr_iload_n (pc := 1) h dX11_host_1 rfl rfl ?_
  refine zr_iload_n (pc := 2) h dX11_host_2 rfl rfl ?_
  obtain ⟨x1, ex1, hf⟩ := zBd_s hf
  refine zm_X11_286 (pc := 3) h gkc_0 ⟨by decide, by decide⟩ (cX11_isPair_ok ex1) rfl (Nat.le_of_ble_eq_true rfl) dX11_host_3 rfl ?_
  have hf := zIf_s hf
  refine zr_if_eq (pc := 6) (tgt := 26) h dX11_host_6 rfl (fun b9 => ?_) (fun b9 => ?_)
  · have hf := hf.1 b9
    refine zr_iconst (pc := 26) (v := (-1 : Int32)) h dX11_host_26 (by decide) ?_
    exact zr_iret (pc := 27) h dX11_host_27 (zRp hf).1 (zRp hf).2
  · have hf := hf.2 b9
    refine zr_iload_n (pc := 9) h dX11_host_9 rfl rfl ?_
    have hf := zIf_s hf
    refine zr_if_lt (pc := 10) (tgt := 26) h dX11_host_10 rfl (fun b8 => ?_) (fun b8 => ?_)
    · have hf := hf.1 b8
      refine zr_iconst (pc := 26) (v := (-1 : Int32)) h dX11_host_26 (by decide) ?_
      exact zr_iret (pc := 27) h dX11_host_27 (zRp hf).1 (zRp hf).2
    · have hf := hf.2 b8
      refine zr_aload_n (pc := 13) h dX11_host_13 rfl rfl ?_
      refine zf_X11_19 (pc := 14) h gkc_0 dX11_host_14 ?_
      refine zf_X11_195 (pc := 17) h gkc_4 dX11_host_17 ?_
      refine zr_iload_n (pc := 20) h dX11_host_20 rfl rfl ?_
      obtain ⟨q2, hf⟩ := zCk_s hf
      refine zr_iald (pc := 21) h gkc_10 q2 rfl dX11_host_21 ?_
      refine zr_iconst (pc := 22) (v := (1 : Int32)) h dX11_host_22 (by decide) ?_
      have hf := zIf_s hf
      refine zr_icmp_ge (pc := 23) (tgt := 28) h dX11_host_23 rfl (fun b7 => ?_) (fun b7 => ?_)
      · have hf := hf.1 b7
        refine zr_aload_n (pc := 28) h dX11_host_28 rfl rfl ?_
        refine zf_X11_74 (pc := 29) h gkc_0 dX11_host_29 ?_
        refine zr_iload_n (pc := 32) h dX11_host_32 rfl rfl ?_
        refine zr_iload_n (pc := 33) h dX11_host_33 rfl rfl ?_
        obtain ⟨μ3, eμ3, hf⟩ := zBd_s hf
        refine zm_X11_295 (pc := 34) h gkc_264 ⟨by decide, by decide⟩ (cX8_lay_ok eμ3) rfl (Nat.le_of_ble_eq_true rfl) dX11_host_34 rfl ?_
        refine zr_aload_n (pc := 37) h dX11_host_37 rfl rfl ?_
        refine zf_X11_74 (pc := 38) h gkc_0 dX11_host_38 ?_
        refine zr_iload_n (pc := 41) h dX11_host_41 rfl rfl ?_
        refine zr_aload_n (pc := 42) h dX11_host_42 rfl rfl ?_
        refine zf_X11_19 (pc := 43) h gkc_0 dX11_host_43 ?_
        refine zf_X11_195 (pc := 46) h gkc_4 dX11_host_46 ?_
        refine zr_iload_n (pc := 49) h dX11_host_49 rfl rfl ?_
        obtain ⟨q4, hf⟩ := zCk_s hf
        refine zr_iald (pc := 50) h gkc_10 q4 rfl dX11_host_50 ?_
        obtain ⟨q5, hf⟩ := zCk_s hf
        refine zr_irem (pc := 51) h dX11_host_51 (by simpa using q5) ?_
        obtain ⟨x6, ex6, hf⟩ := zBd_s hf
        refine zm_X11_299 (pc := 52) h gkc_264 ⟨by decide, by decide⟩ (cX8_ownerOf_ok ex6) rfl (Nat.le_of_ble_eq_true rfl) dX11_host_52 rfl ?_
        exact zr_iret (pc := 55) h dX11_host_55 (zRp hf).1 (zRp hf).2
      · have hf := hf.2 b7
        refine zr_iconst (pc := 26) (v := (-1 : Int32)) h dX11_host_26 (by decide) ?_
        exact zr_iret (pc := 27) h dX11_host_27 (zRp hf).1 (zRp hf).2

set_option maxRecDepth 100000 in
set_option maxHeartbeats 4000000 in
theorem cX11_load_ok {l : Launch} {g : gG} {a1 : Int32} {a2 : Int32} {a3 : Int32} {μ : gM} {r : Int32} {ν : gM} (hf : fX11_load a1 a2 a3 μ = some (r, ν)) : gMet l g yX11_load cX11_load 4 (some .int) 2 53 [.ref (g.1 + 0), .int a1, .int a2, .int a3] μ (some (.int r)) ν := by
  refine gMet_of (gIni [.ref (g.1 + 0), .int a1, .int a2, .int a3] ++ List.replicate 0 none) (by decide) (gIni_ok _ _) (Nat.le_of_ble_eq_true rfl) (fun K h => ?_)
  show K 0 [some (.ref (g.1 + 0)), some (.int a1), some (.int a2), some (.int a3)] [] μ
  unfold fX11_load at hf
  refine zr_aload_n (pc := 0) h dX11_load_0 rfl rfl ?_
  refine zr_iload_n (pc := 1) h dX11_load_1 rfl rfl ?_
  refine zr_iload_n (pc := 2) h dX11_load_2 rfl rfl ?_
  obtain ⟨x1, ex1, hf⟩ := zBd_s hf
  refine zm_X11_286 (pc := 3) h gkc_0 ⟨by decide, by decide⟩ (cX11_isPair_ok ex1) rfl (Nat.le_of_ble_eq_true rfl) dX11_load_3 rfl ?_
  have hf := zIf_s hf
  refine zr_if_eq (pc := 6) (tgt := 21) h dX11_load_6 rfl (fun b6 => ?_) (fun b6 => ?_)
  · have hf := hf.1 b6
    refine zr_iconst (pc := 21) (v := (-1 : Int32)) h dX11_load_21 (by decide) ?_
    exact zr_iret (pc := 22) h dX11_load_22 (zRp hf).1 (zRp hf).2
  · have hf := hf.2 b6
    refine zr_iload_n (pc := 9) h dX11_load_9 rfl rfl ?_
    refine zr_iconst (pc := 10) (v := (1 : Int32)) h dX11_load_10 (by decide) ?_
    have hf := zIf_s hf
    refine zr_icmp_lt (pc := 11) (tgt := 21) h dX11_load_11 rfl (fun b5 => ?_) (fun b5 => ?_)
    · have hf := hf.1 b5
      refine zr_iconst (pc := 21) (v := (-1 : Int32)) h dX11_load_21 (by decide) ?_
      exact zr_iret (pc := 22) h dX11_load_22 (zRp hf).1 (zRp hf).2
    · have hf := hf.2 b5
      refine zr_iload_n (pc := 14) h dX11_load_14 rfl rfl ?_
      refine zr_sipush (pc := 15) (v := (9999 : Int32)) h dX11_load_15 (by decide) ?_
      have hf := zIf_s hf
      refine zr_icmp_le (pc := 18) (tgt := 23) h dX11_load_18 rfl (fun b4 => ?_) (fun b4 => ?_)
      · have hf := hf.1 b4
        refine zr_aload_n (pc := 23) h dX11_load_23 rfl rfl ?_
        refine zf_X11_74 (pc := 24) h gkc_0 dX11_load_24 ?_
        refine zr_iload_n (pc := 27) h dX11_load_27 rfl rfl ?_
        refine zr_iload_n (pc := 28) h dX11_load_28 rfl rfl ?_
        obtain ⟨μ2, eμ2, hf⟩ := zBd_s hf
        refine zm_X11_295 (pc := 29) h gkc_264 ⟨by decide, by decide⟩ (cX8_lay_ok eμ2) rfl (Nat.le_of_ble_eq_true rfl) dX11_load_29 rfl ?_
        refine zr_aload_n (pc := 32) h dX11_load_32 rfl rfl ?_
        refine zf_X11_74 (pc := 33) h gkc_0 dX11_load_33 ?_
        refine zr_iload_n (pc := 36) h dX11_load_36 rfl rfl ?_
        refine zr_iload_n (pc := 37) h dX11_load_37 rfl rfl ?_
        refine zr_iload_n (pc := 38) h dX11_load_38 rfl rfl ?_
        obtain ⟨x3, ex3, hf⟩ := zBd_s hf
        refine zm_X11_305 (pc := 39) h gkc_264 ⟨by decide, by decide⟩ (cX8_countHosts_ok ex3) rfl (Nat.le_of_ble_eq_true rfl) dX11_load_39 rfl ?_
        exact zr_iret (pc := 42) h dX11_load_42 (zRp hf).1 (zRp hf).2
      · have hf := hf.2 b4
        refine zr_iconst (pc := 21) (v := (-1 : Int32)) h dX11_load_21 (by decide) ?_
        exact zr_iret (pc := 22) h dX11_load_22 (zRp hf).1 (zRp hf).2

set_option maxRecDepth 100000 in
set_option maxHeartbeats 4000000 in
theorem cX11_isWithin_ok {l : Launch} {g : gG} {a1 : Int32} {μ : gM} {r : Int32} (hf : fX11_isWithin a1 μ = some r) : gMet l g yX11_isWithin cX11_isWithin 2 (some .boolean) 0 0 [.ref (g.1 + 0), .int a1] μ (some (.int r)) μ := by
  refine gMet_of (gIni [.ref (g.1 + 0), .int a1] ++ List.replicate 0 none) (by decide) (gIni_ok _ _) (Nat.le_of_ble_eq_true rfl) (fun K h => ?_)
  show K 0 [some (.ref (g.1 + 0)), some (.int a1)] [] μ
  unfold fX11_isWithin at hf
  refine zr_aload_n (pc := 0) h dX11_isWithin_0 rfl rfl ?_
  refine zf_X11_44 (pc := 1) h gkc_0 dX11_isWithin_1 ?_
  refine zf_X11_127 (pc := 4) h gkc_34 dX11_isWithin_4 ?_
  refine zr_iload_n (pc := 7) h dX11_isWithin_7 rfl rfl ?_
  refine zr_iadd (pc := 8) h dX11_isWithin_8 ?_
  refine zr_sipush (pc := 9) (v := (9999 : Int32)) h dX11_isWithin_9 (by decide) ?_
  have hf := zIf_s hf
  refine zr_icmp_gt (pc := 12) (tgt := 19) h dX11_isWithin_12 rfl (fun b1 => ?_) (fun b1 => ?_)
  · have hf := hf.1 b1
    refine zr_iconst (pc := 19) (v := (0 : Int32)) h dX11_isWithin_19 (by decide) ?_
    exact zr_zret (pc := 20) h rfl dX11_isWithin_20 (zRi hf) rfl
  · have hf := hf.2 b1
    refine zr_iconst (pc := 15) (v := (1 : Int32)) h dX11_isWithin_15 (by decide) ?_
    refine zr_goto (pc := 16) (tgt := 20) h dX11_isWithin_16 rfl ?_
    exact zr_zret (pc := 20) h rfl dX11_isWithin_20 (zRi hf) rfl

set_option maxRecDepth 100000 in
set_option maxHeartbeats 4000000 in
theorem fX11_ahead_n35_ok {l : Launch} {g : gG} {r : Int32} {ν : gM} {K : gKt} (h : gR l g cX11_ahead RX11 4 (some .int) (gRm 7 200) (some (.int r)) ν K) {y1 : Int32} {y2 : Int32} {z0 : Int32} {μ : gM} (hf : fX11_ahead_n35 y1 y2 z0 μ = some (r, ν)) : K 35 [some (.ref (g.1 + 0)), some (.int y1), some (.int y2), none] [.int z0] μ := by
  unfold fX11_ahead_n35 at hf
  refine zr_istore_n (pc := 35) h dX11_ahead_35 rfl (by decide) rfl ?_
  refine zr_iload_n (pc := 36) h dX11_ahead_36 rfl rfl ?_
  have hf := zIf_s hf
  refine zr_if_eq (pc := 37) (tgt := 52) h dX11_ahead_37 rfl (fun b4 => ?_) (fun b4 => ?_)
  · have hf := hf.1 b4
    refine zr_iconst (pc := 52) (v := (-1 : Int32)) h dX11_ahead_52 (by decide) ?_
    exact zr_iret (pc := 53) h dX11_ahead_53 (zRp hf).1 (zRp hf).2
  · have hf := hf.2 b4
    refine zr_aload_n (pc := 40) h dX11_ahead_40 rfl rfl ?_
    refine zf_X11_67 (pc := 41) h gkc_0 dX11_ahead_41 ?_
    refine zr_iload_n (pc := 44) h dX11_ahead_44 rfl rfl ?_
    refine zr_iload_n (pc := 45) h dX11_ahead_45 rfl rfl ?_
    obtain ⟨x2, μ3, ex2, hf⟩ := zBp_s hf
    refine zm_X11_312 (pc := 46) h gkc_248 ⟨by decide, by decide⟩ (cX3_heldIn_ok ex2) rfl (Nat.le_of_ble_eq_true rfl) dX11_ahead_46 rfl ?_
    refine zr_goto (pc := 49) (tgt := 53) h dX11_ahead_49 rfl ?_
    exact zr_iret (pc := 53) h dX11_ahead_53 (zRp hf).1 (zRp hf).2

set_option maxRecDepth 100000 in
set_option maxHeartbeats 4000000 in
theorem cX11_ahead_ok {l : Launch} {g : gG} {a1 : Int32} {a2 : Int32} {μ : gM} {r : Int32} {ν : gM} (hf : fX11_ahead a1 a2 μ = some (r, ν)) : gMet l g yX11_ahead cX11_ahead 4 (some .int) 7 200 [.ref (g.1 + 0), .int a1, .int a2] μ (some (.int r)) ν := by
  refine gMet_of (gIni [.ref (g.1 + 0), .int a1, .int a2] ++ List.replicate 1 none) (by decide) (gIni_ok _ _) (Nat.le_of_ble_eq_true rfl) (fun K h => ?_)
  show K 0 [some (.ref (g.1 + 0)), some (.int a1), some (.int a2), none] [] μ
  unfold fX11_ahead at hf
  refine zr_aload_n (pc := 0) h dX11_ahead_0 rfl rfl ?_
  refine zf_X11_19 (pc := 1) h gkc_0 dX11_ahead_1 ?_
  refine zr_iload_n (pc := 4) h dX11_ahead_4 rfl rfl ?_
  obtain ⟨x1, ex1, hf⟩ := zBd_s hf
  refine zm_X11_182 (pc := 5) h gkc_4 ⟨by decide, by decide⟩ (cX1_isGroup_ok gkc_4 ex1) rfl (Nat.le_of_ble_eq_true rfl) dX11_ahead_5 rfl ?_
  have hf := zIf_s hf
  refine zr_if_eq (pc := 8) (tgt := 34) h dX11_ahead_8 rfl (fun b9 => ?_) (fun b9 => ?_)
  · have hf := hf.1 b9
    refine zr_iconst (pc := 34) (v := (0 : Int32)) h dX11_ahead_34 (by decide) ?_
    exact zr_weak h [true, true, true, false] (fX11_ahead_n35_ok h hf)
  · have hf := hf.2 b9
    refine zr_iload_n (pc := 11) h dX11_ahead_11 rfl rfl ?_
    have hf := zIf_s hf
    refine zr_if_lt (pc := 12) (tgt := 34) h dX11_ahead_12 rfl (fun b8 => ?_) (fun b8 => ?_)
    · have hf := hf.1 b8
      refine zr_iconst (pc := 34) (v := (0 : Int32)) h dX11_ahead_34 (by decide) ?_
      exact zr_weak h [true, true, true, false] (fX11_ahead_n35_ok h hf)
    · have hf := hf.2 b8
      refine zr_iload_n (pc := 15) h dX11_ahead_15 rfl rfl ?_
      refine zr_sipush (pc := 16) (v := (500 : Int32)) h dX11_ahead_16 (by decide) ?_
      have hf := zIf_s hf
      refine zr_icmp_gt (pc := 19) (tgt := 34) h dX11_ahead_19 rfl (fun b7 => ?_) (fun b7 => ?_)
      · have hf := hf.1 b7
        refine zr_iconst (pc := 34) (v := (0 : Int32)) h dX11_ahead_34 (by decide) ?_
        exact zr_weak h [true, true, true, false] (fX11_ahead_n35_ok h hf)
      · have hf := hf.2 b7
        refine zr_aload_n (pc := 22) h dX11_ahead_22 rfl rfl ?_
        refine zr_iload_n (pc := 23) h dX11_ahead_23 rfl rfl ?_
        obtain ⟨x5, ex5, hf⟩ := zBd_s hf
        refine zm_X11_309 (pc := 24) h gkc_0 ⟨by decide, by decide⟩ (cX11_isWithin_ok ex5) rfl (Nat.le_of_ble_eq_true rfl) dX11_ahead_24 rfl ?_
        have hf := zIf_s hf
        refine zr_if_eq (pc := 27) (tgt := 34) h dX11_ahead_27 rfl (fun b6 => ?_) (fun b6 => ?_)
        · have hf := hf.1 b6
          refine zr_iconst (pc := 34) (v := (0 : Int32)) h dX11_ahead_34 (by decide) ?_
          exact zr_weak h [true, true, true, false] (fX11_ahead_n35_ok h hf)
        · have hf := hf.2 b6
          refine zr_iconst (pc := 30) (v := (1 : Int32)) h dX11_ahead_30 (by decide) ?_
          refine zr_goto (pc := 31) (tgt := 35) h dX11_ahead_31 rfl ?_
          exact zr_weak h [true, true, true, false] (fX11_ahead_n35_ok h hf)

set_option maxRecDepth 100000 in
set_option maxHeartbeats 4000000 in
theorem cX11_fails_ok {l : Launch} {g : gG} {a1 : Int32} {a2 : Int32} {a3 : Int32} {μ : gM} {r : Int32} {ν : gM} (hf : fX11_fails a1 a2 a3 μ = some (r, ν)) : gMet l g yX11_fails cX11_fails 5 (some .int) 6 180 [.ref (g.1 + 0), .int a1, .int a2, .int a3] μ (some (.int r)) ν := by
  refine gMet_of (gIni [.ref (g.1 + 0), .int a1, .int a2, .int a3] ++ List.replicate 1 none) (by decide) (gIni_ok _ _) (Nat.le_of_ble_eq_true rfl) (fun K h => ?_)
  show K 0 [some (.ref (g.1 + 0)), some (.int a1), some (.int a2), some (.int a3), none] [] μ
  unfold fX11_fails at hf
  refine zr_aload_n (pc := 0) h dX11_fails_0 rfl rfl ?_
  refine zr_iload_n (pc := 1) h dX11_fails_1 rfl rfl ?_
  refine zr_iload_n (pc := 2) h dX11_fails_2 rfl rfl ?_
  obtain ⟨x1, ex1, hf⟩ := zBd_s hf
  refine zm_X11_286 (pc := 3) h gkc_0 ⟨by decide, by decide⟩ (cX11_isPair_ok ex1) rfl (Nat.le_of_ble_eq_true rfl) dX11_fails_3 rfl ?_
  have hf := zIf_s hf
  refine zr_if_eq (pc := 6) (tgt := 29) h dX11_fails_6 rfl (fun b10 => ?_) (fun b10 => ?_)
  · have hf := hf.1 b10
    refine zr_iconst (pc := 29) (v := (-1 : Int32)) h dX11_fails_29 (by decide) ?_
    exact zr_iret (pc := 30) h dX11_fails_30 (zRp hf).1 (zRp hf).2
  · have hf := hf.2 b10
    refine zr_aload_n (pc := 9) h dX11_fails_9 rfl rfl ?_
    refine zf_X11_44 (pc := 10) h gkc_0 dX11_fails_10 ?_
    refine zr_iload_n (pc := 13) h dX11_fails_13 rfl rfl ?_
    obtain ⟨x2, ex2, hf⟩ := zBd_s hf
    refine zm_X11_263 (pc := 14) h gkc_34 ⟨by decide, by decide⟩ (cX9_isUp_ok gkc_34 ex2) rfl (Nat.le_of_ble_eq_true rfl) dX11_fails_14 rfl ?_
    have hf := zIf_s hf
    refine zr_if_eq (pc := 17) (tgt := 29) h dX11_fails_17 rfl (fun b9 => ?_) (fun b9 => ?_)
    · have hf := hf.1 b9
      refine zr_iconst (pc := 29) (v := (-1 : Int32)) h dX11_fails_29 (by decide) ?_
      exact zr_iret (pc := 30) h dX11_fails_30 (zRp hf).1 (zRp hf).2
    · have hf := hf.2 b9
      refine zr_iload_n (pc := 20) h dX11_fails_20 rfl rfl ?_
      have hf := zIf_s hf
      refine zr_if_lt (pc := 21) (tgt := 29) h dX11_fails_21 rfl (fun b8 => ?_) (fun b8 => ?_)
      · have hf := hf.1 b8
        refine zr_iconst (pc := 29) (v := (-1 : Int32)) h dX11_fails_29 (by decide) ?_
        exact zr_iret (pc := 30) h dX11_fails_30 (zRp hf).1 (zRp hf).2
      · have hf := hf.2 b8
        refine zr_iload_n (pc := 24) h dX11_fails_24 rfl rfl ?_
        refine zr_iconst (pc := 25) (v := (1 : Int32)) h dX11_fails_25 (by decide) ?_
        have hf := zIf_s hf
        refine zr_icmp_le (pc := 26) (tgt := 31) h dX11_fails_26 rfl (fun b7 => ?_) (fun b7 => ?_)
        · have hf := hf.1 b7
          refine zr_aload_n (pc := 31) h dX11_fails_31 rfl rfl ?_
          refine zf_X11_67 (pc := 32) h gkc_0 dX11_fails_32 ?_
          refine zr_iload_n (pc := 35) h dX11_fails_35 rfl rfl ?_
          refine zr_iload_n (pc := 36) h dX11_fails_36 rfl rfl ?_
          obtain ⟨x3, μ4, ex3, hf⟩ := zBp_s hf
          refine zm_X11_315 (pc := 37) h gkc_248 ⟨by decide, by decide⟩ (cX3_takenBehind_ok ex3) rfl (Nat.le_of_ble_eq_true rfl) dX11_fails_37 rfl ?_
          refine zr_istore (pc := 40) h dX11_fails_40 (by decide) rfl ?_
          refine zr_iload_n (pc := 42) h dX11_fails_42 rfl rfl ?_
          have hf := zIf_s hf
          refine zr_if_ne (pc := 43) (tgt := 51) h dX11_fails_43 rfl (fun b6 => ?_) (fun b6 => ?_)
          · have hf := hf.2 b6
            refine zr_aload_n (pc := 51) h dX11_fails_51 rfl rfl ?_
            refine zf_X11_67 (pc := 52) h gkc_0 dX11_fails_52 ?_
            refine zr_iload_n (pc := 55) h dX11_fails_55 rfl rfl ?_
            refine zr_iload_n (pc := 56) h dX11_fails_56 rfl rfl ?_
            obtain ⟨x5, ex5, hf⟩ := zBd_s hf
            refine zm_X11_318 (pc := 57) h gkc_248 ⟨by decide, by decide⟩ (cX3_otherHolder_ok ex5) rfl (Nat.le_of_ble_eq_true rfl) dX11_fails_57 rfl ?_
            exact zr_iret (pc := 60) h dX11_fails_60 (zRp hf).1 (zRp hf).2
          · have hf := hf.1 b6
            refine zr_iload (pc := 46) h dX11_fails_46 rfl ?_
            refine zr_goto (pc := 48) (tgt := 60) h dX11_fails_48 rfl ?_
            exact zr_iret (pc := 60) h dX11_fails_60 (zRp hf).1 (zRp hf).2
        · have hf := hf.2 b7
          refine zr_iconst (pc := 29) (v := (-1 : Int32)) h dX11_fails_29 (by decide) ?_
          exact zr_iret (pc := 30) h dX11_fails_30 (zRp hf).1 (zRp hf).2

set_option maxRecDepth 100000 in
set_option maxHeartbeats 4000000 in
theorem fX11_worst_l49_ok {l : Launch} {g : gG} {r : Int32} {ν : gM} {K : gKt} (h : gR l g cX11_worst RX11 8 (some .int) (gRm 6 180) (some (.int r)) ν K) : ∀ (n : Nat) (y1 : Int32) (y2 : Int32) (y3 : Int32) (y4 : Int32) (y5 : Int32) (y6 : Int32) (μ : gM), fX11_worst_l49 n y1 y2 y3 y4 y5 y6 μ = some (r, ν) → K 49 [some (.ref (g.1 + 0)), some (.int y1), some (.int y2), some (.int y3), some (.int y4), some (.int y5), some (.int y6), none] [] μ := by
  intro n
  induction n with
  | zero =>
    intro y1 y2 y3 y4 y5 y6 μ hf
    cases (show (none : Option (Int32 × gM)) = some _ from hf)
  | succ n ih =>
    intro y1 y2 y3 y4 y5 y6 μ hf
    unfold fX11_worst_l49 at hf
    refine zr_iload (pc := 49) h dX11_worst_49 rfl ?_
    refine zr_bipush (pc := 51) (v := (6 : Int32)) h dX11_worst_51 (by decide) ?_
    have hf := zIf_s hf
    refine zr_icmp_ge (pc := 53) (tgt := 117) h dX11_worst_53 rfl (fun b14 => ?_) (fun b14 => ?_)
    · have hf := hf.1 b14
      refine zr_iload_n (pc := 117) h dX11_worst_117 rfl rfl ?_
      have hf := zIf_s hf
      refine zr_if_ne (pc := 118) (tgt := 125) h dX11_worst_118 rfl (fun b4 => ?_) (fun b4 => ?_)
      · have hf := hf.2 b4
        refine zr_iload (pc := 125) h dX11_worst_125 rfl ?_
        exact zr_iret (pc := 127) h dX11_worst_127 (zRp hf).1 (zRp hf).2
      · have hf := hf.1 b4
        refine zr_iload_n (pc := 121) h dX11_worst_121 rfl rfl ?_
        refine zr_goto (pc := 122) (tgt := 127) h dX11_worst_122 rfl ?_
        exact zr_iret (pc := 127) h dX11_worst_127 (zRp hf).1 (zRp hf).2
    · have hf := hf.2 b14
      refine zr_iload (pc := 56) h dX11_worst_56 rfl ?_
      refine zr_iload (pc := 58) h dX11_worst_58 rfl ?_
      refine zr_ishr (pc := 60) h dX11_worst_60 ?_
      refine zr_iconst (pc := 61) (v := (1 : Int32)) h dX11_worst_61 (by decide) ?_
      refine zr_iand (pc := 62) h dX11_worst_62 ?_
      have hf := zIf_s hf
      refine zr_if_ne (pc := 63) (tgt := 69) h dX11_worst_63 rfl (fun b13 => ?_) (fun b13 => ?_)
      · have hf := hf.2 b13
        refine zr_aload_n (pc := 69) h dX11_worst_69 rfl rfl ?_
        refine zf_X11_67 (pc := 70) h gkc_0 dX11_worst_70 ?_
        refine zr_iload_n (pc := 73) h dX11_worst_73 rfl rfl ?_
        refine zr_iload (pc := 74) h dX11_worst_74 rfl ?_
        obtain ⟨x5, μ6, ex5, hf⟩ := zBp_s hf
        refine zm_X11_315 (pc := 76) h gkc_248 ⟨by decide, by decide⟩ (cX3_takenBehind_ok ex5) rfl (Nat.le_of_ble_eq_true rfl) dX11_worst_76 rfl ?_
        refine zr_istore (pc := 79) h dX11_worst_79 (by decide) rfl ?_
        refine zr_iload (pc := 81) h dX11_worst_81 rfl ?_
        refine zr_iconst (pc := 83) (v := (-1 : Int32)) h dX11_worst_83 (by decide) ?_
        have hf := zIf_s hf
        refine zr_icmp_ne (pc := 84) (tgt := 98) h dX11_worst_84 rfl (fun b11 => ?_) (fun b11 => ?_)
        · have hf := hf.2 b11
          refine zr_iload (pc := 98) h dX11_worst_98 rfl ?_
          refine zr_iload_n (pc := 100) h dX11_worst_100 rfl rfl ?_
          have hf := zIf_s hf
          refine zr_icmp_le (pc := 101) (tgt := 111) h dX11_worst_101 rfl (fun b9 => ?_) (fun b9 => ?_)
          · have hf := hf.1 b9
            refine zr_iincx (pc := 111) h dX11_worst_111 rfl (by decide) rfl (c := (1 : Int32)) (by decide) (fun x7 ex7 => ?_)
            have hf := zLt_s ex7 hf
            refine zr_goto (pc := 114) (tgt := 49) h dX11_worst_114 rfl ?_
            exact zr_weak h [true, true, true, true, true, true, true, false] (ih _ _ _ _ _ _ _ hf)
          · have hf := hf.2 b9
            refine zr_iload (pc := 104) h dX11_worst_104 rfl ?_
            refine zr_istore_n (pc := 106) h dX11_worst_106 rfl (by decide) rfl ?_
            refine zr_iload (pc := 107) h dX11_worst_107 rfl ?_
            refine zr_istore (pc := 109) h dX11_worst_109 (by decide) rfl ?_
            refine zr_iincx (pc := 111) h dX11_worst_111 rfl (by decide) rfl (c := (1 : Int32)) (by decide) (fun x8 ex8 => ?_)
            have hf := zLt_s ex8 hf
            refine zr_goto (pc := 114) (tgt := 49) h dX11_worst_114 rfl ?_
            exact zr_weak h [true, true, true, true, true, true, true, false] (ih _ _ _ _ _ _ _ hf)
        · have hf := hf.1 b11
          refine zr_iload_n (pc := 87) h dX11_worst_87 rfl rfl ?_
          have hf := zIf_s hf
          refine zr_if_ne (pc := 88) (tgt := 95) h dX11_worst_88 rfl (fun b10 => ?_) (fun b10 => ?_)
          · have hf := hf.2 b10
            refine zr_iload (pc := 95) h dX11_worst_95 rfl ?_
            exact zr_iret (pc := 97) h dX11_worst_97 (zRp hf).1 (zRp hf).2
          · have hf := hf.1 b10
            refine zr_iconst (pc := 91) (v := (-1 : Int32)) h dX11_worst_91 (by decide) ?_
            refine zr_goto (pc := 92) (tgt := 97) h dX11_worst_92 rfl ?_
            exact zr_iret (pc := 97) h dX11_worst_97 (zRp hf).1 (zRp hf).2
      · have hf := hf.1 b13
        refine zr_goto (pc := 66) (tgt := 111) h dX11_worst_66 rfl ?_
        refine zr_iincx (pc := 111) h dX11_worst_111 rfl (by decide) rfl (c := (1 : Int32)) (by decide) (fun x12 ex12 => ?_)
        have hf := zLt_s ex12 hf
        refine zr_goto (pc := 114) (tgt := 49) h dX11_worst_114 rfl ?_
        exact zr_weak h [true, true, true, true, true, true, true, false] (ih _ _ _ _ _ _ _ hf)

set_option maxRecDepth 100000 in
set_option maxHeartbeats 4000000 in
theorem cX11_worst_ok {l : Launch} {g : gG} {a1 : Int32} {a2 : Int32} {μ : gM} {r : Int32} {ν : gM} (hf : fX11_worst a1 a2 μ = some (r, ν)) : gMet l g yX11_worst cX11_worst 8 (some .int) 6 180 [.ref (g.1 + 0), .int a1, .int a2] μ (some (.int r)) ν := by
  refine gMet_of (gIni [.ref (g.1 + 0), .int a1, .int a2] ++ List.replicate 5 none) (by decide) (gIni_ok _ _) (Nat.le_of_ble_eq_true rfl) (fun K h => ?_)
  show K 0 [some (.ref (g.1 + 0)), some (.int a1), some (.int a2), none, none, none, none, none] [] μ
  unfold fX11_worst at hf
  refine zr_aload_n (pc := 0) h dX11_worst_0 rfl rfl ?_
  refine zf_X11_19 (pc := 1) h gkc_0 dX11_worst_1 ?_
  refine zr_iload_n (pc := 4) h dX11_worst_4 rfl rfl ?_
  obtain ⟨x1, ex1, hf⟩ := zBd_s hf
  refine zm_X11_182 (pc := 5) h gkc_4 ⟨by decide, by decide⟩ (cX1_isGroup_ok gkc_4 ex1) rfl (Nat.le_of_ble_eq_true rfl) dX11_worst_5 rfl ?_
  have hf := zIf_s hf
  refine zr_if_eq (pc := 8) (tgt := 20) h dX11_worst_8 rfl (fun b17 => ?_) (fun b17 => ?_)
  · have hf := hf.1 b17
    refine zr_iconst (pc := 20) (v := (-1 : Int32)) h dX11_worst_20 (by decide) ?_
    exact zr_iret (pc := 21) h dX11_worst_21 (zRp hf).1 (zRp hf).2
  · have hf := hf.2 b17
    refine zr_iload_n (pc := 11) h dX11_worst_11 rfl rfl ?_
    have hf := zIf_s hf
    refine zr_if_lt (pc := 12) (tgt := 20) h dX11_worst_12 rfl (fun b16 => ?_) (fun b16 => ?_)
    · have hf := hf.1 b16
      refine zr_iconst (pc := 20) (v := (-1 : Int32)) h dX11_worst_20 (by decide) ?_
      exact zr_iret (pc := 21) h dX11_worst_21 (zRp hf).1 (zRp hf).2
    · have hf := hf.2 b16
      refine zr_iload_n (pc := 15) h dX11_worst_15 rfl rfl ?_
      refine zr_iconst (pc := 16) (v := (1 : Int32)) h dX11_worst_16 (by decide) ?_
      have hf := zIf_s hf
      refine zr_icmp_le (pc := 17) (tgt := 22) h dX11_worst_17 rfl (fun b15 => ?_) (fun b15 => ?_)
      · have hf := hf.1 b15
        refine zr_iconst (pc := 22) (v := (-1 : Int32)) h dX11_worst_22 (by decide) ?_
        refine zr_istore_n (pc := 23) h dX11_worst_23 rfl (by decide) rfl ?_
        refine zr_iconst (pc := 24) (v := (-1 : Int32)) h dX11_worst_24 (by decide) ?_
        refine zr_istore (pc := 25) h dX11_worst_25 (by decide) rfl ?_
        refine zr_aload_n (pc := 27) h dX11_worst_27 rfl rfl ?_
        refine zf_X11_19 (pc := 28) h gkc_0 dX11_worst_28 ?_
        refine zf_X11_198 (pc := 31) h gkc_4 dX11_worst_31 ?_
        refine zr_iload_n (pc := 34) h dX11_worst_34 rfl rfl ?_
        obtain ⟨q2, hf⟩ := zCk_s hf
        refine zr_iald (pc := 35) h gkc_11 q2 rfl dX11_worst_35 ?_
        refine zr_aload_n (pc := 36) h dX11_worst_36 rfl rfl ?_
        refine zf_X11_44 (pc := 37) h gkc_0 dX11_worst_37 ?_
        refine zf_X11_153 (pc := 40) h gkc_34 dX11_worst_40 ?_
        refine zr_iand (pc := 43) h dX11_worst_43 ?_
        refine zr_topi h (fun x3 ex3 => ?_)
        have hf := zLt_s ex3 hf
        refine zr_istore (pc := 44) h dX11_worst_44 (by decide) rfl ?_
        refine zr_iconst (pc := 46) (v := (0 : Int32)) h dX11_worst_46 (by decide) ?_
        refine zr_istore (pc := 47) h dX11_worst_47 (by decide) rfl ?_
        exact zr_weak h [true, true, true, true, true, true, true, false] (fX11_worst_l49_ok h 100000 _ _ _ _ _ _ _ hf)
      · have hf := hf.2 b15
        refine zr_iconst (pc := 20) (v := (-1 : Int32)) h dX11_worst_20 (by decide) ?_
        exact zr_iret (pc := 21) h dX11_worst_21 (zRp hf).1 (zRp hf).2

set_option maxRecDepth 100000 in
set_option maxHeartbeats 4000000 in
theorem cX11_settles_ok {l : Launch} {g : gG} {μ : gM} {r : Int32} {ν : gM} (hf : fX11_settles μ = some (r, ν)) : gMet l g yX11_settles cX11_settles 1 (some .int) 6 179 [.ref (g.1 + 0)] μ (some (.int r)) ν := by
  refine gMet_of (gIni [.ref (g.1 + 0)] ++ List.replicate 0 none) (by decide) (gIni_ok _ _) (Nat.le_of_ble_eq_true rfl) (fun K h => ?_)
  show K 0 [some (.ref (g.1 + 0))] [] μ
  unfold fX11_settles at hf
  refine zr_aload_n (pc := 0) h dX11_settles_0 rfl rfl ?_
  refine zf_X11_19 (pc := 1) h gkc_0 dX11_settles_1 ?_
  refine zf_X11_97 (pc := 4) h gkc_4 dX11_settles_4 ?_
  have hf := zIf_s hf
  refine zr_if_eq (pc := 7) (tgt := 30) h dX11_settles_7 rfl (fun b5 => ?_) (fun b5 => ?_)
  · have hf := hf.1 b5
    refine zr_iconst (pc := 30) (v := (-1 : Int32)) h dX11_settles_30 (by decide) ?_
    exact zr_iret (pc := 31) h dX11_settles_31 (zRp hf).1 (zRp hf).2
  · have hf := hf.2 b5
    refine zr_aload_n (pc := 10) h dX11_settles_10 rfl rfl ?_
    refine zr_sipush (pc := 11) (v := (600 : Int32)) h dX11_settles_11 (by decide) ?_
    obtain ⟨x1, ex1, hf⟩ := zBd_s hf
    refine zm_X11_309 (pc := 14) h gkc_0 ⟨by decide, by decide⟩ (cX11_isWithin_ok ex1) rfl (Nat.le_of_ble_eq_true rfl) dX11_settles_14 rfl ?_
    have hf := zIf_s hf
    refine zr_if_eq (pc := 17) (tgt := 30) h dX11_settles_17 rfl (fun b4 => ?_) (fun b4 => ?_)
    · have hf := hf.1 b4
      refine zr_iconst (pc := 30) (v := (-1 : Int32)) h dX11_settles_30 (by decide) ?_
      exact zr_iret (pc := 31) h dX11_settles_31 (zRp hf).1 (zRp hf).2
    · have hf := hf.2 b4
      refine zr_aload_n (pc := 20) h dX11_settles_20 rfl rfl ?_
      refine zf_X11_67 (pc := 21) h gkc_0 dX11_settles_21 ?_
      obtain ⟨x2, μ3, ex2, hf⟩ := zBp_s hf
      refine zm_X11_321 (pc := 24) h gkc_248 ⟨by decide, by decide⟩ (cX3_calmFrom_ok ex2) rfl (Nat.le_of_ble_eq_true rfl) dX11_settles_24 rfl ?_
      refine zr_goto (pc := 27) (tgt := 31) h dX11_settles_27 rfl ?_
      exact zr_iret (pc := 31) h dX11_settles_31 (zRp hf).1 (zRp hf).2

set_option maxRecDepth 100000 in
set_option maxHeartbeats 4000000 in
theorem cX11_least_ok {l : Launch} {g : gG} {a1 : Int32} {a2 : Int32} {μ : gM} {r : Int32} {ν : gM} (hf : fX11_least a1 a2 μ = some (r, ν)) : gMet l g yX11_least cX11_least 3 (some .int) 7 201 [.ref (g.1 + 0), .int a1, .int a2] μ (some (.int r)) ν := by
  refine gMet_of (gIni [.ref (g.1 + 0), .int a1, .int a2] ++ List.replicate 0 none) (by decide) (gIni_ok _ _) (Nat.le_of_ble_eq_true rfl) (fun K h => ?_)
  show K 0 [some (.ref (g.1 + 0)), some (.int a1), some (.int a2)] [] μ
  unfold fX11_least at hf
  refine zr_aload_n (pc := 0) h dX11_least_0 rfl rfl ?_
  refine zf_X11_19 (pc := 1) h gkc_0 dX11_least_1 ?_
  refine zr_iload_n (pc := 4) h dX11_least_4 rfl rfl ?_
  refine zr_iload_n (pc := 5) h dX11_least_5 rfl rfl ?_
  obtain ⟨x1, ex1, hf⟩ := zBd_s hf
  refine zm_X11_213 (pc := 6) h gkc_4 ⟨by decide, by decide⟩ (cX1_isMember_ok gkc_4 ex1) rfl (Nat.le_of_ble_eq_true rfl) dX11_least_6 rfl ?_
  have hf := zIf_s hf
  refine zr_if_eq (pc := 9) (tgt := 34) h dX11_least_9 rfl (fun b6 => ?_) (fun b6 => ?_)
  · have hf := hf.1 b6
    refine zr_iconst (pc := 34) (v := (-1 : Int32)) h dX11_least_34 (by decide) ?_
    exact zr_iret (pc := 35) h dX11_least_35 (zRp hf).1 (zRp hf).2
  · have hf := hf.2 b6
    refine zr_aload_n (pc := 12) h dX11_least_12 rfl rfl ?_
    refine zr_sipush (pc := 13) (v := (300 : Int32)) h dX11_least_13 (by decide) ?_
    obtain ⟨x2, ex2, hf⟩ := zBd_s hf
    refine zm_X11_309 (pc := 16) h gkc_0 ⟨by decide, by decide⟩ (cX11_isWithin_ok ex2) rfl (Nat.le_of_ble_eq_true rfl) dX11_least_16 rfl ?_
    have hf := zIf_s hf
    refine zr_if_eq (pc := 19) (tgt := 34) h dX11_least_19 rfl (fun b5 => ?_) (fun b5 => ?_)
    · have hf := hf.1 b5
      refine zr_iconst (pc := 34) (v := (-1 : Int32)) h dX11_least_34 (by decide) ?_
      exact zr_iret (pc := 35) h dX11_least_35 (zRp hf).1 (zRp hf).2
    · have hf := hf.2 b5
      refine zr_aload_n (pc := 22) h dX11_least_22 rfl rfl ?_
      refine zf_X11_67 (pc := 23) h gkc_0 dX11_least_23 ?_
      refine zr_iload_n (pc := 26) h dX11_least_26 rfl rfl ?_
      refine zr_iload_n (pc := 27) h dX11_least_27 rfl rfl ?_
      obtain ⟨x3, μ4, ex3, hf⟩ := zBp_s hf
      refine zm_X11_324 (pc := 28) h gkc_248 ⟨by decide, by decide⟩ (cX3_leastWord_ok ex3) rfl (Nat.le_of_ble_eq_true rfl) dX11_least_28 rfl ?_
      refine zr_goto (pc := 31) (tgt := 35) h dX11_least_31 rfl ?_
      exact zr_iret (pc := 35) h dX11_least_35 (zRp hf).1 (zRp hf).2

set_option maxRecDepth 100000 in
set_option maxHeartbeats 4000000 in
theorem cX11_isSpan_ok {l : Launch} {g : gG} {a1 : Int32} {μ : gM} {r : Int32} (hf : fX11_isSpan a1 μ = some r) : gMet l g yX11_isSpan cX11_isSpan 2 (some .boolean) 1 21 [.ref (g.1 + 0), .int a1] μ (some (.int r)) μ := by
  refine gMet_of (gIni [.ref (g.1 + 0), .int a1] ++ List.replicate 0 none) (by decide) (gIni_ok _ _) (Nat.le_of_ble_eq_true rfl) (fun K h => ?_)
  show K 0 [some (.ref (g.1 + 0)), some (.int a1)] [] μ
  unfold fX11_isSpan at hf
  refine zr_iload_n (pc := 0) h dX11_isSpan_0 rfl rfl ?_
  refine zr_iconst (pc := 1) (v := (1 : Int32)) h dX11_isSpan_1 (by decide) ?_
  have hf := zIf_s hf
  refine zr_icmp_lt (pc := 2) (tgt := 24) h dX11_isSpan_2 rfl (fun b4 => ?_) (fun b4 => ?_)
  · have hf := hf.1 b4
    refine zr_iconst (pc := 24) (v := (0 : Int32)) h dX11_isSpan_24 (by decide) ?_
    exact zr_zret (pc := 25) h rfl dX11_isSpan_25 (zRi hf) rfl
  · have hf := hf.2 b4
    refine zr_iload_n (pc := 5) h dX11_isSpan_5 rfl rfl ?_
    refine zr_sipush (pc := 6) (v := (500 : Int32)) h dX11_isSpan_6 (by decide) ?_
    have hf := zIf_s hf
    refine zr_icmp_gt (pc := 9) (tgt := 24) h dX11_isSpan_9 rfl (fun b3 => ?_) (fun b3 => ?_)
    · have hf := hf.1 b3
      refine zr_iconst (pc := 24) (v := (0 : Int32)) h dX11_isSpan_24 (by decide) ?_
      exact zr_zret (pc := 25) h rfl dX11_isSpan_25 (zRi hf) rfl
    · have hf := hf.2 b3
      refine zr_aload_n (pc := 12) h dX11_isSpan_12 rfl rfl ?_
      refine zr_iload_n (pc := 13) h dX11_isSpan_13 rfl rfl ?_
      obtain ⟨x1, ex1, hf⟩ := zBd_s hf
      refine zm_X11_309 (pc := 14) h gkc_0 ⟨by decide, by decide⟩ (cX11_isWithin_ok ex1) rfl (Nat.le_of_ble_eq_true rfl) dX11_isSpan_14 rfl ?_
      have hf := zIf_s hf
      refine zr_if_eq (pc := 17) (tgt := 24) h dX11_isSpan_17 rfl (fun b2 => ?_) (fun b2 => ?_)
      · have hf := hf.1 b2
        refine zr_iconst (pc := 24) (v := (0 : Int32)) h dX11_isSpan_24 (by decide) ?_
        exact zr_zret (pc := 25) h rfl dX11_isSpan_25 (zRi hf) rfl
      · have hf := hf.2 b2
        refine zr_iconst (pc := 20) (v := (1 : Int32)) h dX11_isSpan_20 (by decide) ?_
        refine zr_goto (pc := 21) (tgt := 25) h dX11_isSpan_21 rfl ?_
        exact zr_zret (pc := 25) h rfl dX11_isSpan_25 (zRi hf) rfl

set_option maxRecDepth 100000 in
set_option maxHeartbeats 4000000 in
theorem cX11_flaps_ok {l : Launch} {g : gG} {a1 : Int32} {a2 : Int32} {μ : gM} {r : Int32} {ν : gM} (hf : fX11_flaps a1 a2 μ = some (r, ν)) : gMet l g yX11_flaps cX11_flaps 3 (some .int) 7 200 [.ref (g.1 + 0), .int a1, .int a2] μ (some (.int r)) ν := by
  refine gMet_of (gIni [.ref (g.1 + 0), .int a1, .int a2] ++ List.replicate 0 none) (by decide) (gIni_ok _ _) (Nat.le_of_ble_eq_true rfl) (fun K h => ?_)
  show K 0 [some (.ref (g.1 + 0)), some (.int a1), some (.int a2)] [] μ
  unfold fX11_flaps at hf
  refine zr_aload_n (pc := 0) h dX11_flaps_0 rfl rfl ?_
  refine zf_X11_19 (pc := 1) h gkc_0 dX11_flaps_1 ?_
  refine zr_iload_n (pc := 4) h dX11_flaps_4 rfl rfl ?_
  obtain ⟨x1, ex1, hf⟩ := zBd_s hf
  refine zm_X11_182 (pc := 5) h gkc_4 ⟨by decide, by decide⟩ (cX1_isGroup_ok gkc_4 ex1) rfl (Nat.le_of_ble_eq_true rfl) dX11_flaps_5 rfl ?_
  have hf := zIf_s hf
  refine zr_if_eq (pc := 8) (tgt := 31) h dX11_flaps_8 rfl (fun b6 => ?_) (fun b6 => ?_)
  · have hf := hf.1 b6
    refine zr_iconst (pc := 31) (v := (-1 : Int32)) h dX11_flaps_31 (by decide) ?_
    exact zr_iret (pc := 32) h dX11_flaps_32 (zRp hf).1 (zRp hf).2
  · have hf := hf.2 b6
    refine zr_aload_n (pc := 11) h dX11_flaps_11 rfl rfl ?_
    refine zr_iload_n (pc := 12) h dX11_flaps_12 rfl rfl ?_
    obtain ⟨x2, ex2, hf⟩ := zBd_s hf
    refine zm_X11_327 (pc := 13) h gkc_0 ⟨by decide, by decide⟩ (cX11_isSpan_ok ex2) rfl (Nat.le_of_ble_eq_true rfl) dX11_flaps_13 rfl ?_
    have hf := zIf_s hf
    refine zr_if_eq (pc := 16) (tgt := 31) h dX11_flaps_16 rfl (fun b5 => ?_) (fun b5 => ?_)
    · have hf := hf.1 b5
      refine zr_iconst (pc := 31) (v := (-1 : Int32)) h dX11_flaps_31 (by decide) ?_
      exact zr_iret (pc := 32) h dX11_flaps_32 (zRp hf).1 (zRp hf).2
    · have hf := hf.2 b5
      refine zr_aload_n (pc := 19) h dX11_flaps_19 rfl rfl ?_
      refine zf_X11_67 (pc := 20) h gkc_0 dX11_flaps_20 ?_
      refine zr_iload_n (pc := 23) h dX11_flaps_23 rfl rfl ?_
      refine zr_iload_n (pc := 24) h dX11_flaps_24 rfl rfl ?_
      obtain ⟨x3, μ4, ex3, hf⟩ := zBp_s hf
      refine zm_X11_330 (pc := 25) h gkc_248 ⟨by decide, by decide⟩ (cX3_takesIn_ok ex3) rfl (Nat.le_of_ble_eq_true rfl) dX11_flaps_25 rfl ?_
      refine zr_goto (pc := 28) (tgt := 32) h dX11_flaps_28 rfl ?_
      exact zr_iret (pc := 32) h dX11_flaps_32 (zRp hf).1 (zRp hf).2

set_option maxRecDepth 100000 in
set_option maxHeartbeats 4000000 in
theorem fX11_needs_l44_ok {l : Launch} {g : gG} {r : Int32} {ν : gM} {K : gKt} (h : gR l g cX11_needs RX11 7 (some .int) (gRm 7 201) (some (.int r)) ν K) : ∀ (n : Nat) (y1 : Int32) (y2 : Int32) (y3 : Int32) (y4 : Int32) (y5 : Int32) (μ : gM), fX11_needs_l44 n y1 y2 y3 y4 y5 μ = some (r, ν) → K 44 [some (.ref (g.1 + 0)), some (.int y1), some (.int y2), some (.int y3), some (.int y4), some (.int y5), none] [] μ := by
  intro n
  induction n with
  | zero =>
    intro y1 y2 y3 y4 y5 μ hf
    cases (show (none : Option (Int32 × gM)) = some _ from hf)
  | succ n ih =>
    intro y1 y2 y3 y4 y5 μ hf
    unfold fX11_needs_l44 at hf
    refine zr_iload (pc := 44) h dX11_needs_44 rfl ?_
    refine zr_aload_n (pc := 46) h dX11_needs_46 rfl rfl ?_
    refine zf_X11_19 (pc := 47) h gkc_0 dX11_needs_47 ?_
    refine zf_X11_107 (pc := 50) h gkc_4 dX11_needs_50 ?_
    refine zr_iconst (pc := 53) (v := (1 : Int32)) h dX11_needs_53 (by decide) ?_
    refine zr_iald (pc := 54) (q := 1) h gkc_5 rfl (by decide) dX11_needs_54 ?_
    have hf := zIf_s hf
    refine zr_icmp_ge (pc := 55) (tgt := 114) h dX11_needs_55 rfl (fun b14 => ?_) (fun b14 => ?_)
    · have hf := hf.1 b14
      refine zr_iload (pc := 114) h dX11_needs_114 rfl ?_
      exact zr_iret (pc := 116) h dX11_needs_116 (zRp hf).1 (zRp hf).2
    · have hf := hf.2 b14
      refine zr_aload_n (pc := 58) h dX11_needs_58 rfl rfl ?_
      refine zf_X11_44 (pc := 59) h gkc_0 dX11_needs_59 ?_
      refine zf_X11_156 (pc := 62) h gkc_34 dX11_needs_62 ?_
      refine zr_iconst (pc := 65) (v := (1 : Int32)) h dX11_needs_65 (by decide) ?_
      refine zr_iload (pc := 66) h dX11_needs_66 rfl ?_
      refine zr_ishl (pc := 68) h dX11_needs_68 ?_
      refine zr_ior (pc := 69) h dX11_needs_69 ?_
      refine zr_topi h (fun x5 ex5 => ?_)
      have hf := zLt_s ex5 hf
      refine zr_istore (pc := 70) h dX11_needs_70 (by decide) rfl ?_
      refine zr_iload (pc := 72) h dX11_needs_72 rfl ?_
      refine zr_aload_n (pc := 74) h dX11_needs_74 rfl rfl ?_
      refine zf_X11_44 (pc := 75) h gkc_0 dX11_needs_75 ?_
      refine zf_X11_156 (pc := 78) h gkc_34 dX11_needs_78 ?_
      have hf := zIf_s hf
      refine zr_icmp_eq (pc := 81) (tgt := 108) h dX11_needs_81 rfl (fun b13 => ?_) (fun b13 => ?_)
      · have hf := hf.1 b13
        refine zr_iincx (pc := 108) h dX11_needs_108 rfl (by decide) rfl (c := (1 : Int32)) (by decide) (fun x6 ex6 => ?_)
        have hf := zLt_s ex6 hf
        refine zr_goto (pc := 111) (tgt := 44) h dX11_needs_111 rfl ?_
        exact zr_weak h [true, true, true, true, true, true, false] (ih _ _ _ _ _ _ hf)
      · have hf := hf.2 b13
        refine zr_aload_n (pc := 84) h dX11_needs_84 rfl rfl ?_
        refine zf_X11_67 (pc := 85) h gkc_0 dX11_needs_85 ?_
        refine zr_iload_n (pc := 88) h dX11_needs_88 rfl rfl ?_
        refine zr_iload_n (pc := 89) h dX11_needs_89 rfl rfl ?_
        refine zr_iload (pc := 90) h dX11_needs_90 rfl ?_
        obtain ⟨x7, μ8, ex7, hf⟩ := zBp_s hf
        refine zm_X11_333 (pc := 92) h gkc_248 ⟨by decide, by decide⟩ (cX3_holderWithCuts_ok ex7) rfl (Nat.le_of_ble_eq_true rfl) dX11_needs_92 rfl ?_
        refine zr_iload_n (pc := 95) h dX11_needs_95 rfl rfl ?_
        have hf := zIf_s hf
        refine zr_icmp_eq (pc := 96) (tgt := 108) h dX11_needs_96 rfl (fun b12 => ?_) (fun b12 => ?_)
        · have hf := hf.1 b12
          refine zr_iincx (pc := 108) h dX11_needs_108 rfl (by decide) rfl (c := (1 : Int32)) (by decide) (fun x9 ex9 => ?_)
          have hf := zLt_s ex9 hf
          refine zr_goto (pc := 111) (tgt := 44) h dX11_needs_111 rfl ?_
          exact zr_weak h [true, true, true, true, true, true, false] (ih _ _ _ _ _ _ hf)
        · have hf := hf.2 b12
          refine zr_iload (pc := 99) h dX11_needs_99 rfl ?_
          refine zr_iconst (pc := 101) (v := (1 : Int32)) h dX11_needs_101 (by decide) ?_
          refine zr_iload (pc := 102) h dX11_needs_102 rfl ?_
          refine zr_ishl (pc := 104) h dX11_needs_104 ?_
          refine zr_ior (pc := 105) h dX11_needs_105 ?_
          refine zr_topi h (fun x10 ex10 => ?_)
          have hf := zLt_s ex10 hf
          refine zr_istore (pc := 106) h dX11_needs_106 (by decide) rfl ?_
          refine zr_iincx (pc := 108) h dX11_needs_108 rfl (by decide) rfl (c := (1 : Int32)) (by decide) (fun x11 ex11 => ?_)
          have hf := zLt_s ex11 hf
          refine zr_goto (pc := 111) (tgt := 44) h dX11_needs_111 rfl ?_
          exact zr_weak h [true, true, true, true, true, true, false] (ih _ _ _ _ _ _ hf)

set_option maxRecDepth 100000 in
set_option maxHeartbeats 4000000 in
theorem cX11_needs_ok {l : Launch} {g : gG} {a1 : Int32} {a2 : Int32} {μ : gM} {r : Int32} {ν : gM} (hf : fX11_needs a1 a2 μ = some (r, ν)) : gMet l g yX11_needs cX11_needs 7 (some .int) 7 201 [.ref (g.1 + 0), .int a1, .int a2] μ (some (.int r)) ν := by
  refine gMet_of (gIni [.ref (g.1 + 0), .int a1, .int a2] ++ List.replicate 4 none) (by decide) (gIni_ok _ _) (Nat.le_of_ble_eq_true rfl) (fun K h => ?_)
  show K 0 [some (.ref (g.1 + 0)), some (.int a1), some (.int a2), none, none, none, none] [] μ
  unfold fX11_needs at hf
  refine zr_aload_n (pc := 0) h dX11_needs_0 rfl rfl ?_
  refine zr_iload_n (pc := 1) h dX11_needs_1 rfl rfl ?_
  refine zr_iload_n (pc := 2) h dX11_needs_2 rfl rfl ?_
  obtain ⟨x1, ex1, hf⟩ := zBd_s hf
  refine zm_X11_286 (pc := 3) h gkc_0 ⟨by decide, by decide⟩ (cX11_isPair_ok ex1) rfl (Nat.le_of_ble_eq_true rfl) dX11_needs_3 rfl ?_
  have hf := zIf_s hf
  refine zr_if_eq (pc := 6) (tgt := 19) h dX11_needs_6 rfl (fun b16 => ?_) (fun b16 => ?_)
  · have hf := hf.1 b16
    refine zr_iconst (pc := 19) (v := (-1 : Int32)) h dX11_needs_19 (by decide) ?_
    exact zr_iret (pc := 20) h dX11_needs_20 (zRp hf).1 (zRp hf).2
  · have hf := hf.2 b16
    refine zr_aload_n (pc := 9) h dX11_needs_9 rfl rfl ?_
    refine zr_sipush (pc := 10) (v := (300 : Int32)) h dX11_needs_10 (by decide) ?_
    obtain ⟨x2, ex2, hf⟩ := zBd_s hf
    refine zm_X11_309 (pc := 13) h gkc_0 ⟨by decide, by decide⟩ (cX11_isWithin_ok ex2) rfl (Nat.le_of_ble_eq_true rfl) dX11_needs_13 rfl ?_
    have hf := zIf_s hf
    refine zr_if_ne (pc := 16) (tgt := 21) h dX11_needs_16 rfl (fun b15 => ?_) (fun b15 => ?_)
    · have hf := hf.2 b15
      refine zr_aload_n (pc := 21) h dX11_needs_21 rfl rfl ?_
      refine zf_X11_67 (pc := 22) h gkc_0 dX11_needs_22 ?_
      refine zr_iload_n (pc := 25) h dX11_needs_25 rfl rfl ?_
      refine zr_iload_n (pc := 26) h dX11_needs_26 rfl rfl ?_
      refine zr_aload_n (pc := 27) h dX11_needs_27 rfl rfl ?_
      refine zf_X11_44 (pc := 28) h gkc_0 dX11_needs_28 ?_
      refine zf_X11_156 (pc := 31) h gkc_34 dX11_needs_31 ?_
      obtain ⟨x3, μ4, ex3, hf⟩ := zBp_s hf
      refine zm_X11_333 (pc := 34) h gkc_248 ⟨by decide, by decide⟩ (cX3_holderWithCuts_ok ex3) rfl (Nat.le_of_ble_eq_true rfl) dX11_needs_34 rfl ?_
      refine zr_istore_n (pc := 37) h dX11_needs_37 rfl (by decide) rfl ?_
      refine zr_iconst (pc := 38) (v := (0 : Int32)) h dX11_needs_38 (by decide) ?_
      refine zr_istore (pc := 39) h dX11_needs_39 (by decide) rfl ?_
      refine zr_iconst (pc := 41) (v := (0 : Int32)) h dX11_needs_41 (by decide) ?_
      refine zr_istore (pc := 42) h dX11_needs_42 (by decide) rfl ?_
      exact zr_weak h [true, true, true, true, true, true, false] (fX11_needs_l44_ok h 100000 _ _ _ _ _ _ hf)
    · have hf := hf.1 b15
      refine zr_iconst (pc := 19) (v := (-1 : Int32)) h dX11_needs_19 (by decide) ?_
      exact zr_iret (pc := 20) h dX11_needs_20 (zRp hf).1 (zRp hf).2

set_option maxRecDepth 100000 in
set_option maxHeartbeats 4000000 in
theorem cX11_letters_ok {l : Launch} {g : gG} {a1 : Int32} {μ : gM} {r : Int32} {ν : gM} (hf : fX11_letters a1 μ = some (r, ν)) : gMet l g yX11_letters cX11_letters 2 (some .int) 7 199 [.ref (g.1 + 0), .int a1] μ (some (.int r)) ν := by
  refine gMet_of (gIni [.ref (g.1 + 0), .int a1] ++ List.replicate 0 none) (by decide) (gIni_ok _ _) (Nat.le_of_ble_eq_true rfl) (fun K h => ?_)
  show K 0 [some (.ref (g.1 + 0)), some (.int a1)] [] μ
  unfold fX11_letters at hf
  refine zr_aload_n (pc := 0) h dX11_letters_0 rfl rfl ?_
  refine zf_X11_19 (pc := 1) h gkc_0 dX11_letters_1 ?_
  refine zf_X11_97 (pc := 4) h gkc_4 dX11_letters_4 ?_
  have hf := zIf_s hf
  refine zr_if_eq (pc := 7) (tgt := 29) h dX11_letters_7 rfl (fun b5 => ?_) (fun b5 => ?_)
  · have hf := hf.1 b5
    refine zr_iconst (pc := 29) (v := (-1 : Int32)) h dX11_letters_29 (by decide) ?_
    exact zr_iret (pc := 30) h dX11_letters_30 (zRp hf).1 (zRp hf).2
  · have hf := hf.2 b5
    refine zr_aload_n (pc := 10) h dX11_letters_10 rfl rfl ?_
    refine zr_iload_n (pc := 11) h dX11_letters_11 rfl rfl ?_
    obtain ⟨x1, ex1, hf⟩ := zBd_s hf
    refine zm_X11_327 (pc := 12) h gkc_0 ⟨by decide, by decide⟩ (cX11_isSpan_ok ex1) rfl (Nat.le_of_ble_eq_true rfl) dX11_letters_12 rfl ?_
    have hf := zIf_s hf
    refine zr_if_eq (pc := 15) (tgt := 29) h dX11_letters_15 rfl (fun b4 => ?_) (fun b4 => ?_)
    · have hf := hf.1 b4
      refine zr_iconst (pc := 29) (v := (-1 : Int32)) h dX11_letters_29 (by decide) ?_
      exact zr_iret (pc := 30) h dX11_letters_30 (zRp hf).1 (zRp hf).2
    · have hf := hf.2 b4
      refine zr_aload_n (pc := 18) h dX11_letters_18 rfl rfl ?_
      refine zf_X11_67 (pc := 19) h gkc_0 dX11_letters_19 ?_
      refine zr_iload_n (pc := 22) h dX11_letters_22 rfl rfl ?_
      obtain ⟨x2, μ3, ex2, hf⟩ := zBp_s hf
      refine zm_X11_336 (pc := 23) h gkc_248 ⟨by decide, by decide⟩ (cX3_sentIn_ok ex2) rfl (Nat.le_of_ble_eq_true rfl) dX11_letters_23 rfl ?_
      refine zr_goto (pc := 26) (tgt := 30) h dX11_letters_26 rfl ?_
      exact zr_iret (pc := 30) h dX11_letters_30 (zRp hf).1 (zRp hf).2

set_option maxRecDepth 100000 in
set_option maxHeartbeats 4000000 in
theorem cX11_stands_ok {l : Launch} {g : gG} {a1 : Int32} {a2 : Int32} {a3 : Int32} {μ : gM} {r : Int32} {ν : gM} (hf : fX11_stands a1 a2 a3 μ = some (r, ν)) : gMet l g yX11_stands cX11_stands 4 (some .int) 6 182 [.ref (g.1 + 0), .int a1, .int a2, .int a3] μ (some (.int r)) ν := by
  refine gMet_of (gIni [.ref (g.1 + 0), .int a1, .int a2, .int a3] ++ List.replicate 0 none) (by decide) (gIni_ok _ _) (Nat.le_of_ble_eq_true rfl) (fun K h => ?_)
  show K 0 [some (.ref (g.1 + 0)), some (.int a1), some (.int a2), some (.int a3)] [] μ
  unfold fX11_stands at hf
  refine zr_aload_n (pc := 0) h dX11_stands_0 rfl rfl ?_
  refine zf_X11_19 (pc := 1) h gkc_0 dX11_stands_1 ?_
  refine zr_iload_n (pc := 4) h dX11_stands_4 rfl rfl ?_
  refine zr_iload_n (pc := 5) h dX11_stands_5 rfl rfl ?_
  obtain ⟨x1, ex1, hf⟩ := zBd_s hf
  refine zm_X11_213 (pc := 6) h gkc_4 ⟨by decide, by decide⟩ (cX1_isMember_ok gkc_4 ex1) rfl (Nat.le_of_ble_eq_true rfl) dX11_stands_6 rfl ?_
  have hf := zIf_s hf
  refine zr_if_eq (pc := 9) (tgt := 33) h dX11_stands_9 rfl (fun b6 => ?_) (fun b6 => ?_)
  · have hf := hf.1 b6
    refine zr_iconst (pc := 33) (v := (-1 : Int32)) h dX11_stands_33 (by decide) ?_
    exact zr_iret (pc := 34) h dX11_stands_34 (zRp hf).1 (zRp hf).2
  · have hf := hf.2 b6
    refine zr_aload_n (pc := 12) h dX11_stands_12 rfl rfl ?_
    refine zr_iload_n (pc := 13) h dX11_stands_13 rfl rfl ?_
    obtain ⟨x2, ex2, hf⟩ := zBd_s hf
    refine zm_X11_327 (pc := 14) h gkc_0 ⟨by decide, by decide⟩ (cX11_isSpan_ok ex2) rfl (Nat.le_of_ble_eq_true rfl) dX11_stands_14 rfl ?_
    have hf := zIf_s hf
    refine zr_if_eq (pc := 17) (tgt := 33) h dX11_stands_17 rfl (fun b5 => ?_) (fun b5 => ?_)
    · have hf := hf.1 b5
      refine zr_iconst (pc := 33) (v := (-1 : Int32)) h dX11_stands_33 (by decide) ?_
      exact zr_iret (pc := 34) h dX11_stands_34 (zRp hf).1 (zRp hf).2
    · have hf := hf.2 b5
      refine zr_aload_n (pc := 20) h dX11_stands_20 rfl rfl ?_
      refine zf_X11_67 (pc := 21) h gkc_0 dX11_stands_21 ?_
      refine zr_iload_n (pc := 24) h dX11_stands_24 rfl rfl ?_
      refine zr_iload_n (pc := 25) h dX11_stands_25 rfl rfl ?_
      refine zr_iload_n (pc := 26) h dX11_stands_26 rfl rfl ?_
      obtain ⟨x3, μ4, ex3, hf⟩ := zBp_s hf
      refine zm_X11_339 (pc := 27) h gkc_248 ⟨by decide, by decide⟩ (cX3_ticksHeld_ok ex3) rfl (Nat.le_of_ble_eq_true rfl) dX11_stands_27 rfl ?_
      refine zr_goto (pc := 30) (tgt := 34) h dX11_stands_30 rfl ?_
      exact zr_iret (pc := 34) h dX11_stands_34 (zRp hf).1 (zRp hf).2

set_option maxRecDepth 100000 in
set_option maxHeartbeats 4000000 in
theorem cX11_returns_ok {l : Launch} {g : gG} {a1 : Int32} {a2 : Int32} {μ : gM} {r : Int32} {ν : gM} (hf : fX11_returns a1 a2 μ = some (r, ν)) : gMet l g yX11_returns cX11_returns 3 (some .int) 6 180 [.ref (g.1 + 0), .int a1, .int a2] μ (some (.int r)) ν := by
  refine gMet_of (gIni [.ref (g.1 + 0), .int a1, .int a2] ++ List.replicate 0 none) (by decide) (gIni_ok _ _) (Nat.le_of_ble_eq_true rfl) (fun K h => ?_)
  show K 0 [some (.ref (g.1 + 0)), some (.int a1), some (.int a2)] [] μ
  unfold fX11_returns at hf
  refine zr_aload_n (pc := 0) h dX11_returns_0 rfl rfl ?_
  refine zf_X11_19 (pc := 1) h gkc_0 dX11_returns_1 ?_
  refine zr_iload_n (pc := 4) h dX11_returns_4 rfl rfl ?_
  refine zr_iload_n (pc := 5) h dX11_returns_5 rfl rfl ?_
  obtain ⟨x1, ex1, hf⟩ := zBd_s hf
  refine zm_X11_213 (pc := 6) h gkc_4 ⟨by decide, by decide⟩ (cX1_isMember_ok gkc_4 ex1) rfl (Nat.le_of_ble_eq_true rfl) dX11_returns_6 rfl ?_
  have hf := zIf_s hf
  refine zr_if_eq (pc := 9) (tgt := 35) h dX11_returns_9 rfl (fun b6 => ?_) (fun b6 => ?_)
  · have hf := hf.1 b6
    refine zr_iconst (pc := 35) (v := (-1 : Int32)) h dX11_returns_35 (by decide) ?_
    exact zr_iret (pc := 36) h dX11_returns_36 (zRp hf).1 (zRp hf).2
  · have hf := hf.2 b6
    refine zr_aload_n (pc := 12) h dX11_returns_12 rfl rfl ?_
    refine zf_X11_44 (pc := 13) h gkc_0 dX11_returns_13 ?_
    refine zr_iload_n (pc := 16) h dX11_returns_16 rfl rfl ?_
    obtain ⟨x2, ex2, hf⟩ := zBd_s hf
    refine zm_X11_263 (pc := 17) h gkc_34 ⟨by decide, by decide⟩ (cX9_isUp_ok gkc_34 ex2) rfl (Nat.le_of_ble_eq_true rfl) dX11_returns_17 rfl ?_
    have hf := zIf_s hf
    refine zr_if_ne (pc := 20) (tgt := 35) h dX11_returns_20 rfl (fun b5 => ?_) (fun b5 => ?_)
    · have hf := hf.2 b5
      refine zr_iconst (pc := 35) (v := (-1 : Int32)) h dX11_returns_35 (by decide) ?_
      exact zr_iret (pc := 36) h dX11_returns_36 (zRp hf).1 (zRp hf).2
    · have hf := hf.1 b5
      refine zr_aload_n (pc := 23) h dX11_returns_23 rfl rfl ?_
      refine zf_X11_67 (pc := 24) h gkc_0 dX11_returns_24 ?_
      refine zr_iload_n (pc := 27) h dX11_returns_27 rfl rfl ?_
      refine zr_iload_n (pc := 28) h dX11_returns_28 rfl rfl ?_
      obtain ⟨x3, μ4, ex3, hf⟩ := zBp_s hf
      refine zm_X11_342 (pc := 29) h gkc_248 ⟨by decide, by decide⟩ (cX3_regainedBehind_ok ex3) rfl (Nat.le_of_ble_eq_true rfl) dX11_returns_29 rfl ?_
      refine zr_goto (pc := 32) (tgt := 36) h dX11_returns_32 rfl ?_
      exact zr_iret (pc := 36) h dX11_returns_36 (zRp hf).1 (zRp hf).2

set_option maxRecDepth 100000 in
set_option maxHeartbeats 4000000 in
theorem fX11_under_n35_ok {l : Launch} {g : gG} {r : Int32} {ν : gM} {K : gKt} (h : gR l g cX11_under RX11 5 (some .int) (gRm 7 201) (some (.int r)) ν K) {y1 : Int32} {y2 : Int32} {y3 : Int32} {z0 : Int32} {μ : gM} (hf : fX11_under_n35 y1 y2 y3 z0 μ = some (r, ν)) : K 35 [some (.ref (g.1 + 0)), some (.int y1), some (.int y2), some (.int y3), none] [.int z0] μ := by
  unfold fX11_under_n35 at hf
  refine zr_istore (pc := 35) h dX11_under_35 (by decide) rfl ?_
  refine zr_iload (pc := 37) h dX11_under_37 rfl ?_
  have hf := zIf_s hf
  refine zr_if_eq (pc := 39) (tgt := 55) h dX11_under_39 rfl (fun b4 => ?_) (fun b4 => ?_)
  · have hf := hf.1 b4
    refine zr_iconst (pc := 55) (v := (-1 : Int32)) h dX11_under_55 (by decide) ?_
    exact zr_iret (pc := 56) h dX11_under_56 (zRp hf).1 (zRp hf).2
  · have hf := hf.2 b4
    refine zr_aload_n (pc := 42) h dX11_under_42 rfl rfl ?_
    refine zf_X11_67 (pc := 43) h gkc_0 dX11_under_43 ?_
    refine zr_iload_n (pc := 46) h dX11_under_46 rfl rfl ?_
    refine zr_iload_n (pc := 47) h dX11_under_47 rfl rfl ?_
    refine zr_iload_n (pc := 48) h dX11_under_48 rfl rfl ?_
    obtain ⟨x2, μ3, ex2, hf⟩ := zBp_s hf
    refine zm_X11_333 (pc := 49) h gkc_248 ⟨by decide, by decide⟩ (cX3_holderWithCuts_ok ex2) rfl (Nat.le_of_ble_eq_true rfl) dX11_under_49 rfl ?_
    refine zr_goto (pc := 52) (tgt := 56) h dX11_under_52 rfl ?_
    exact zr_iret (pc := 56) h dX11_under_56 (zRp hf).1 (zRp hf).2

set_option maxRecDepth 100000 in
set_option maxHeartbeats 4000000 in
theorem cX11_under_ok {l : Launch} {g : gG} {a1 : Int32} {a2 : Int32} {a3 : Int32} {μ : gM} {r : Int32} {ν : gM} (hf : fX11_under a1 a2 a3 μ = some (r, ν)) : gMet l g yX11_under cX11_under 5 (some .int) 7 201 [.ref (g.1 + 0), .int a1, .int a2, .int a3] μ (some (.int r)) ν := by
  refine gMet_of (gIni [.ref (g.1 + 0), .int a1, .int a2, .int a3] ++ List.replicate 1 none) (by decide) (gIni_ok _ _) (Nat.le_of_ble_eq_true rfl) (fun K h => ?_)
  show K 0 [some (.ref (g.1 + 0)), some (.int a1), some (.int a2), some (.int a3), none] [] μ
  unfold fX11_under at hf
  refine zr_aload_n (pc := 0) h dX11_under_0 rfl rfl ?_
  refine zr_iload_n (pc := 1) h dX11_under_1 rfl rfl ?_
  refine zr_iload_n (pc := 2) h dX11_under_2 rfl rfl ?_
  obtain ⟨x1, ex1, hf⟩ := zBd_s hf
  refine zm_X11_286 (pc := 3) h gkc_0 ⟨by decide, by decide⟩ (cX11_isPair_ok ex1) rfl (Nat.le_of_ble_eq_true rfl) dX11_under_3 rfl ?_
  have hf := zIf_s hf
  refine zr_if_eq (pc := 6) (tgt := 34) h dX11_under_6 rfl (fun b9 => ?_) (fun b9 => ?_)
  · have hf := hf.1 b9
    refine zr_iconst (pc := 34) (v := (0 : Int32)) h dX11_under_34 (by decide) ?_
    exact zr_weak h [true, true, true, true, false] (fX11_under_n35_ok h hf)
  · have hf := hf.2 b9
    refine zr_aload_n (pc := 9) h dX11_under_9 rfl rfl ?_
    refine zf_X11_19 (pc := 10) h gkc_0 dX11_under_10 ?_
    refine zr_iload_n (pc := 13) h dX11_under_13 rfl rfl ?_
    obtain ⟨x5, ex5, hf⟩ := zBd_s hf
    refine zm_X11_345 (pc := 14) h gkc_4 ⟨by decide, by decide⟩ (cX1_areLinks_ok gkc_4 ex5) rfl (Nat.le_of_ble_eq_true rfl) dX11_under_14 rfl ?_
    have hf := zIf_s hf
    refine zr_if_eq (pc := 17) (tgt := 34) h dX11_under_17 rfl (fun b8 => ?_) (fun b8 => ?_)
    · have hf := hf.1 b8
      refine zr_iconst (pc := 34) (v := (0 : Int32)) h dX11_under_34 (by decide) ?_
      exact zr_weak h [true, true, true, true, false] (fX11_under_n35_ok h hf)
    · have hf := hf.2 b8
      refine zr_aload_n (pc := 20) h dX11_under_20 rfl rfl ?_
      refine zr_sipush (pc := 21) (v := (300 : Int32)) h dX11_under_21 (by decide) ?_
      obtain ⟨x6, ex6, hf⟩ := zBd_s hf
      refine zm_X11_309 (pc := 24) h gkc_0 ⟨by decide, by decide⟩ (cX11_isWithin_ok ex6) rfl (Nat.le_of_ble_eq_true rfl) dX11_under_24 rfl ?_
      have hf := zIf_s hf
      refine zr_if_eq (pc := 27) (tgt := 34) h dX11_under_27 rfl (fun b7 => ?_) (fun b7 => ?_)
      · have hf := hf.1 b7
        refine zr_iconst (pc := 34) (v := (0 : Int32)) h dX11_under_34 (by decide) ?_
        exact zr_weak h [true, true, true, true, false] (fX11_under_n35_ok h hf)
      · have hf := hf.2 b7
        refine zr_iconst (pc := 30) (v := (1 : Int32)) h dX11_under_30 (by decide) ?_
        refine zr_goto (pc := 31) (tgt := 35) h dX11_under_31 rfl ?_
        exact zr_weak h [true, true, true, true, false] (fX11_under_n35_ok h hf)

set_option maxRecDepth 100000 in
set_option maxHeartbeats 4000000 in
theorem fX11_rank_l57_ok {l : Launch} {g : gG} {r : Int32} {μe : gM} {K : gKt} (h : gR l g cX11_rank RX11 6 (some .int) (gRm 1 25) (some (.int r)) μe K) : ∀ (n : Nat) (y1 : Int32) (y2 : Int32) (y3 : Int32) (y4 : Int32) (y5 : Int32), fX11_rank_l57 n y1 y2 y3 y4 y5 μe = some r → K 57 [some (.ref (g.1 + 0)), some (.int y1), some (.int y2), some (.int y3), some (.int y4), some (.int y5)] [] μe := by
  intro n
  induction n with
  | zero =>
    intro y1 y2 y3 y4 y5 hf
    cases (show (none : Option Int32) = some _ from hf)
  | succ n ih =>
    intro y1 y2 y3 y4 y5 hf
    unfold fX11_rank_l57 at hf
    refine zr_iload (pc := 57) h dX11_rank_57 rfl ?_
    refine zr_iload_n (pc := 59) h dX11_rank_59 rfl rfl ?_
    have hf := zIf_s hf
    refine zr_icmp_ge (pc := 60) (tgt := 95) h dX11_rank_60 rfl (fun b11 => ?_) (fun b11 => ?_)
    · have hf := hf.1 b11
      refine zr_iload (pc := 95) h dX11_rank_95 rfl ?_
      exact zr_iret (pc := 97) h dX11_rank_97 (zRi hf) rfl
    · have hf := hf.2 b11
      refine zr_iload (pc := 63) h dX11_rank_63 rfl ?_
      refine zr_iconst (pc := 65) (v := (-1 : Int32)) h dX11_rank_65 (by decide) ?_
      have hf := zIf_s hf
      refine zr_icmp_eq (pc := 66) (tgt := 95) h dX11_rank_66 rfl (fun b10 => ?_) (fun b10 => ?_)
      · have hf := hf.1 b10
        refine zr_iload (pc := 95) h dX11_rank_95 rfl ?_
        exact zr_iret (pc := 97) h dX11_rank_97 (zRi hf) rfl
      · have hf := hf.2 b10
        refine zr_iload_n (pc := 69) h dX11_rank_69 rfl rfl ?_
        refine zr_iconst (pc := 70) (v := (1 : Int32)) h dX11_rank_70 (by decide) ?_
        refine zr_iload (pc := 71) h dX11_rank_71 rfl ?_
        refine zr_ishl (pc := 73) h dX11_rank_73 ?_
        refine zr_iconst (pc := 74) (v := (-1 : Int32)) h dX11_rank_74 (by decide) ?_
        refine zr_ixor (pc := 75) h dX11_rank_75 ?_
        refine zr_iand (pc := 76) h dX11_rank_76 ?_
        refine zr_topi h (fun x7 ex7 => ?_)
        have hf := zLt_s ex7 hf
        refine zr_istore_n (pc := 77) h dX11_rank_77 rfl (by decide) rfl ?_
        refine zr_aload_n (pc := 78) h dX11_rank_78 rfl rfl ?_
        refine zf_X11_44 (pc := 79) h gkc_0 dX11_rank_79 ?_
        refine zr_iload_n (pc := 82) h dX11_rank_82 rfl rfl ?_
        refine zr_iload_n (pc := 83) h dX11_rank_83 rfl rfl ?_
        obtain ⟨x8, ex8, hf⟩ := zBd_s hf
        refine zm_X11_353 (pc := 84) h gkc_34 ⟨by decide, by decide⟩ (cX9_strongest_ok gkc_34 ex8) rfl (Nat.le_of_ble_eq_true rfl) dX11_rank_84 rfl ?_
        refine zr_istore (pc := 87) h dX11_rank_87 (by decide) rfl ?_
        refine zr_iincx (pc := 89) h dX11_rank_89 rfl (by decide) rfl (c := (1 : Int32)) (by decide) (fun x9 ex9 => ?_)
        have hf := zLt_s ex9 hf
        refine zr_goto (pc := 92) (tgt := 57) h dX11_rank_92 rfl ?_
        exact zr_weak h [true, true, true, true, true, true] (ih _ _ _ _ _ hf)

set_option maxRecDepth 100000 in
set_option maxHeartbeats 4000000 in
theorem cX11_rank_ok {l : Launch} {g : gG} {a1 : Int32} {a2 : Int32} {μ : gM} {r : Int32} (hf : fX11_rank a1 a2 μ = some r) : gMet l g yX11_rank cX11_rank 6 (some .int) 1 25 [.ref (g.1 + 0), .int a1, .int a2] μ (some (.int r)) μ := by
  refine gMet_of (gIni [.ref (g.1 + 0), .int a1, .int a2] ++ List.replicate 3 none) (by decide) (gIni_ok _ _) (Nat.le_of_ble_eq_true rfl) (fun K h => ?_)
  show K 0 [some (.ref (g.1 + 0)), some (.int a1), some (.int a2), none, none, none] [] μ
  unfold fX11_rank at hf
  refine zr_aload_n (pc := 0) h dX11_rank_0 rfl rfl ?_
  refine zf_X11_19 (pc := 1) h gkc_0 dX11_rank_1 ?_
  refine zr_iload_n (pc := 4) h dX11_rank_4 rfl rfl ?_
  obtain ⟨x1, ex1, hf⟩ := zBd_s hf
  refine zm_X11_182 (pc := 5) h gkc_4 ⟨by decide, by decide⟩ (cX1_isGroup_ok gkc_4 ex1) rfl (Nat.le_of_ble_eq_true rfl) dX11_rank_5 rfl ?_
  have hf := zIf_s hf
  refine zr_if_eq (pc := 8) (tgt := 31) h dX11_rank_8 rfl (fun b14 => ?_) (fun b14 => ?_)
  · have hf := hf.1 b14
    refine zr_iconst (pc := 31) (v := (-1 : Int32)) h dX11_rank_31 (by decide) ?_
    exact zr_iret (pc := 32) h dX11_rank_32 (zRi hf) rfl
  · have hf := hf.2 b14
    refine zr_iload_n (pc := 11) h dX11_rank_11 rfl rfl ?_
    have hf := zIf_s hf
    refine zr_if_lt (pc := 12) (tgt := 31) h dX11_rank_12 rfl (fun b13 => ?_) (fun b13 => ?_)
    · have hf := hf.1 b13
      refine zr_iconst (pc := 31) (v := (-1 : Int32)) h dX11_rank_31 (by decide) ?_
      exact zr_iret (pc := 32) h dX11_rank_32 (zRi hf) rfl
    · have hf := hf.2 b13
      refine zr_iload_n (pc := 15) h dX11_rank_15 rfl rfl ?_
      refine zr_aload_n (pc := 16) h dX11_rank_16 rfl rfl ?_
      refine zf_X11_19 (pc := 17) h gkc_0 dX11_rank_17 ?_
      refine zf_X11_198 (pc := 20) h gkc_4 dX11_rank_20 ?_
      refine zr_iload_n (pc := 23) h dX11_rank_23 rfl rfl ?_
      obtain ⟨q2, hf⟩ := zCk_s hf
      refine zr_iald (pc := 24) h gkc_11 q2 rfl dX11_rank_24 ?_
      obtain ⟨x3, ex3, hf⟩ := zBd_s hf
      refine zm_X11_348 (pc := 25) h ⟨by decide, by decide⟩ (cJ6_bitCount_0f7a4_ok ex3) rfl (Nat.le_of_ble_eq_true rfl) dX11_rank_25 rfl ?_
      have hf := zIf_s hf
      refine zr_icmp_lt (pc := 28) (tgt := 33) h dX11_rank_28 rfl (fun b12 => ?_) (fun b12 => ?_)
      · have hf := hf.1 b12
        refine zr_aload_n (pc := 33) h dX11_rank_33 rfl rfl ?_
        refine zf_X11_19 (pc := 34) h gkc_0 dX11_rank_34 ?_
        refine zf_X11_198 (pc := 37) h gkc_4 dX11_rank_37 ?_
        refine zr_iload_n (pc := 40) h dX11_rank_40 rfl rfl ?_
        obtain ⟨q4, hf⟩ := zCk_s hf
        refine zr_iald (pc := 41) h gkc_11 q4 rfl dX11_rank_41 ?_
        refine zr_topi h (fun x5 ex5 => ?_)
        have hf := zLt_s ex5 hf
        refine zr_istore_n (pc := 42) h dX11_rank_42 rfl (by decide) rfl ?_
        refine zr_aload_n (pc := 43) h dX11_rank_43 rfl rfl ?_
        refine zf_X11_44 (pc := 44) h gkc_0 dX11_rank_44 ?_
        refine zr_iload_n (pc := 47) h dX11_rank_47 rfl rfl ?_
        refine zr_iload_n (pc := 48) h dX11_rank_48 rfl rfl ?_
        obtain ⟨x6, ex6, hf⟩ := zBd_s hf
        refine zm_X11_353 (pc := 49) h gkc_34 ⟨by decide, by decide⟩ (cX9_strongest_ok gkc_34 ex6) rfl (Nat.le_of_ble_eq_true rfl) dX11_rank_49 rfl ?_
        refine zr_istore (pc := 52) h dX11_rank_52 (by decide) rfl ?_
        refine zr_iconst (pc := 54) (v := (0 : Int32)) h dX11_rank_54 (by decide) ?_
        refine zr_istore (pc := 55) h dX11_rank_55 (by decide) rfl ?_
        exact zr_weak h [true, true, true, true, true, true] (fX11_rank_l57_ok h 100000 _ _ _ _ _ hf)
      · have hf := hf.2 b12
        refine zr_iconst (pc := 31) (v := (-1 : Int32)) h dX11_rank_31 (by decide) ?_
        exact zr_iret (pc := 32) h dX11_rank_32 (zRi hf) rfl

set_option maxRecDepth 100000 in
set_option maxHeartbeats 4000000 in
theorem cX11_log_ok {l : Launch} {g : gG} {a1 : Int32} {a2 : Int32} {μ : gM} {r : Int32} (hf : fX11_log a1 a2 μ = some r) : gMet l g yX11_log cX11_log 3 (some .int) 1 23 [.ref (g.1 + 0), .int a1, .int a2] μ (some (.int r)) μ := by
  refine gMet_of (gIni [.ref (g.1 + 0), .int a1, .int a2] ++ List.replicate 0 none) (by decide) (gIni_ok _ _) (Nat.le_of_ble_eq_true rfl) (fun K h => ?_)
  show K 0 [some (.ref (g.1 + 0)), some (.int a1), some (.int a2)] [] μ
  unfold fX11_log at hf
  refine zr_aload_n (pc := 0) h dX11_log_0 rfl rfl ?_
  refine zf_X11_44 (pc := 1) h gkc_0 dX11_log_1 ?_
  refine zf_X11_168 (pc := 4) h gkc_34 dX11_log_4 ?_
  refine zr_iload_n (pc := 7) h dX11_log_7 rfl rfl ?_
  refine zr_iload_n (pc := 8) h dX11_log_8 rfl rfl ?_
  obtain ⟨x1, ex1, hf⟩ := zBd_s hf
  refine zm_X11_356 (pc := 9) h gkc_37 ⟨by decide, by decide⟩ (cX0_read_ok gkc_37 ex1) rfl (Nat.le_of_ble_eq_true rfl) dX11_log_9 rfl ?_
  exact zr_iret (pc := 12) h dX11_log_12 (zRi hf) rfl

set_option maxRecDepth 100000 in
set_option maxHeartbeats 4000000 in
theorem cX11_undo_ok {l : Launch} {g : gG} {μ : gM} {r : Int32} {ν : gM} (hf : fX11_undo μ = some (r, ν)) : gMet l g yX11_undo cX11_undo 1 (some .int) 4 123 [.ref (g.1 + 0)] μ (some (.int r)) ν := by
  refine gMet_of (gIni [.ref (g.1 + 0)] ++ List.replicate 0 none) (by decide) (gIni_ok _ _) (Nat.le_of_ble_eq_true rfl) (fun K h => ?_)
  show K 0 [some (.ref (g.1 + 0))] [] μ
  unfold fX11_undo at hf
  refine zr_aload_n (pc := 0) h dX11_undo_0 rfl rfl ?_
  refine zf_X11_19 (pc := 1) h gkc_0 dX11_undo_1 ?_
  refine zf_X11_97 (pc := 4) h gkc_4 dX11_undo_4 ?_
  have hf := zIf_s hf
  refine zr_if_ne (pc := 7) (tgt := 13) h dX11_undo_7 rfl (fun b4 => ?_) (fun b4 => ?_)
  · have hf := hf.2 b4
    refine zr_aload_n (pc := 13) h dX11_undo_13 rfl rfl ?_
    refine zf_X11_60 (pc := 14) h gkc_0 dX11_undo_14 ?_
    refine zr_aload_n (pc := 17) h dX11_undo_17 rfl rfl ?_
    refine zf_X11_44 (pc := 18) h gkc_0 dX11_undo_18 ?_
    obtain ⟨x1, μ2, ex1, hf⟩ := zBp_s hf
    refine zm_X11_358 (pc := 21) h gkc_49 ⟨by decide, by decide⟩ (cX4_restore_ok gkc_34 ex1) rfl (Nat.le_of_ble_eq_true rfl) dX11_undo_21 rfl ?_
    have hf := zIf_s hf
    refine zr_if_eq (pc := 24) (tgt := 37) h dX11_undo_24 rfl (fun b3 => ?_) (fun b3 => ?_)
    · have hf := hf.1 b3
      refine zr_bipush (pc := 37) (v := (-3 : Int32)) h dX11_undo_37 (by decide) ?_
      exact zr_iret (pc := 39) h dX11_undo_39 (zRp hf).1 (zRp hf).2
    · have hf := hf.2 b3
      refine zr_aload_n (pc := 27) h dX11_undo_27 rfl rfl ?_
      refine zf_X11_60 (pc := 28) h gkc_0 dX11_undo_28 ?_
      refine zf_X11_175 (pc := 31) h gkc_49 dX11_undo_31 ?_
      refine zr_goto (pc := 34) (tgt := 39) h dX11_undo_34 rfl ?_
      exact zr_iret (pc := 39) h dX11_undo_39 (zRp hf).1 (zRp hf).2
  · have hf := hf.1 b4
    refine zr_bipush (pc := 10) (v := (-2 : Int32)) h dX11_undo_10 (by decide) ?_
    exact zr_iret (pc := 12) h dX11_undo_12 (zRp hf).1 (zRp hf).2

set_option maxRecDepth 100000 in
set_option maxHeartbeats 4000000 in
theorem cX11_keep_ok {l : Launch} {g : gG} {a1 : Int32} {μ : gM} {r : Int32} {ν : gM} (hf : fX11_keep a1 μ = some (r, ν)) : gMet l g yX11_keep cX11_keep 2 (some .int) 4 124 [.ref (g.1 + 0), .int a1] μ (some (.int r)) ν := by
  refine gMet_of (gIni [.ref (g.1 + 0), .int a1] ++ List.replicate 0 none) (by decide) (gIni_ok _ _) (Nat.le_of_ble_eq_true rfl) (fun K h => ?_)
  show K 0 [some (.ref (g.1 + 0)), some (.int a1)] [] μ
  unfold fX11_keep at hf
  refine zr_aload_n (pc := 0) h dX11_keep_0 rfl rfl ?_
  refine zf_X11_19 (pc := 1) h gkc_0 dX11_keep_1 ?_
  refine zf_X11_97 (pc := 4) h gkc_4 dX11_keep_4 ?_
  have hf := zIf_s hf
  refine zr_if_eq (pc := 7) (tgt := 19) h dX11_keep_7 rfl (fun b4 => ?_) (fun b4 => ?_)
  · have hf := hf.1 b4
    refine zr_bipush (pc := 19) (v := (-2 : Int32)) h dX11_keep_19 (by decide) ?_
    exact zr_iret (pc := 21) h dX11_keep_21 (zRp hf).1 (zRp hf).2
  · have hf := hf.2 b4
    refine zr_iload_n (pc := 10) h dX11_keep_10 rfl rfl ?_
    have hf := zIf_s hf
    refine zr_if_lt (pc := 11) (tgt := 19) h dX11_keep_11 rfl (fun b3 => ?_) (fun b3 => ?_)
    · have hf := hf.1 b3
      refine zr_bipush (pc := 19) (v := (-2 : Int32)) h dX11_keep_19 (by decide) ?_
      exact zr_iret (pc := 21) h dX11_keep_21 (zRp hf).1 (zRp hf).2
    · have hf := hf.2 b3
      refine zr_iload_n (pc := 14) h dX11_keep_14 rfl rfl ?_
      refine zr_iconst (pc := 15) (v := (2 : Int32)) h dX11_keep_15 (by decide) ?_
      have hf := zIf_s hf
      refine zr_icmp_lt (pc := 16) (tgt := 22) h dX11_keep_16 rfl (fun b2 => ?_) (fun b2 => ?_)
      · have hf := hf.1 b2
        refine zr_aload_n (pc := 22) h dX11_keep_22 rfl rfl ?_
        refine zf_X11_60 (pc := 23) h gkc_0 dX11_keep_23 ?_
        refine zr_iload_n (pc := 26) h dX11_keep_26 rfl rfl ?_
        refine zr_aload_n (pc := 27) h dX11_keep_27 rfl rfl ?_
        refine zf_X11_44 (pc := 28) h gkc_0 dX11_keep_28 ?_
        obtain ⟨μ1, eμ1, hf⟩ := zBd_s hf
        refine zm_X11_362 (pc := 31) h gkc_49 ⟨by decide, by decide⟩ (cX4_keepImage_ok gkc_34 eμ1) rfl (Nat.le_of_ble_eq_true rfl) dX11_keep_31 rfl ?_
        refine zr_aload_n (pc := 34) h dX11_keep_34 rfl rfl ?_
        refine zf_X11_44 (pc := 35) h gkc_0 dX11_keep_35 ?_
        refine zf_X11_127 (pc := 38) h gkc_34 dX11_keep_38 ?_
        exact zr_iret (pc := 41) h dX11_keep_41 (zRp hf).1 (zRp hf).2
      · have hf := hf.2 b2
        refine zr_bipush (pc := 19) (v := (-2 : Int32)) h dX11_keep_19 (by decide) ?_
        exact zr_iret (pc := 21) h dX11_keep_21 (zRp hf).1 (zRp hf).2

set_option maxRecDepth 100000 in
set_option maxHeartbeats 4000000 in
theorem cX11_back_ok {l : Launch} {g : gG} {a1 : Int32} {μ : gM} {r : Int32} {ν : gM} (hf : fX11_back a1 μ = some (r, ν)) : gMet l g yX11_back cX11_back 2 (some .int) 4 124 [.ref (g.1 + 0), .int a1] μ (some (.int r)) ν := by
  refine gMet_of (gIni [.ref (g.1 + 0), .int a1] ++ List.replicate 0 none) (by decide) (gIni_ok _ _) (Nat.le_of_ble_eq_true rfl) (fun K h => ?_)
  show K 0 [some (.ref (g.1 + 0)), some (.int a1)] [] μ
  unfold fX11_back at hf
  refine zr_aload_n (pc := 0) h dX11_back_0 rfl rfl ?_
  refine zf_X11_19 (pc := 1) h gkc_0 dX11_back_1 ?_
  refine zf_X11_97 (pc := 4) h gkc_4 dX11_back_4 ?_
  have hf := zIf_s hf
  refine zr_if_eq (pc := 7) (tgt := 19) h dX11_back_7 rfl (fun b6 => ?_) (fun b6 => ?_)
  · have hf := hf.1 b6
    refine zr_bipush (pc := 19) (v := (-2 : Int32)) h dX11_back_19 (by decide) ?_
    exact zr_iret (pc := 21) h dX11_back_21 (zRp hf).1 (zRp hf).2
  · have hf := hf.2 b6
    refine zr_iload_n (pc := 10) h dX11_back_10 rfl rfl ?_
    have hf := zIf_s hf
    refine zr_if_lt (pc := 11) (tgt := 19) h dX11_back_11 rfl (fun b5 => ?_) (fun b5 => ?_)
    · have hf := hf.1 b5
      refine zr_bipush (pc := 19) (v := (-2 : Int32)) h dX11_back_19 (by decide) ?_
      exact zr_iret (pc := 21) h dX11_back_21 (zRp hf).1 (zRp hf).2
    · have hf := hf.2 b5
      refine zr_iload_n (pc := 14) h dX11_back_14 rfl rfl ?_
      refine zr_iconst (pc := 15) (v := (2 : Int32)) h dX11_back_15 (by decide) ?_
      have hf := zIf_s hf
      refine zr_icmp_lt (pc := 16) (tgt := 22) h dX11_back_16 rfl (fun b4 => ?_) (fun b4 => ?_)
      · have hf := hf.1 b4
        refine zr_aload_n (pc := 22) h dX11_back_22 rfl rfl ?_
        refine zf_X11_60 (pc := 23) h gkc_0 dX11_back_23 ?_
        refine zr_iload_n (pc := 26) h dX11_back_26 rfl rfl ?_
        refine zr_aload_n (pc := 27) h dX11_back_27 rfl rfl ?_
        refine zf_X11_44 (pc := 28) h gkc_0 dX11_back_28 ?_
        obtain ⟨x1, μ2, ex1, hf⟩ := zBp_s hf
        refine zm_X11_366 (pc := 31) h gkc_49 ⟨by decide, by decide⟩ (cX4_takeImage_ok gkc_34 ex1) rfl (Nat.le_of_ble_eq_true rfl) dX11_back_31 rfl ?_
        have hf := zIf_s hf
        refine zr_if_eq (pc := 34) (tgt := 47) h dX11_back_34 rfl (fun b3 => ?_) (fun b3 => ?_)
        · have hf := hf.1 b3
          refine zr_bipush (pc := 47) (v := (-3 : Int32)) h dX11_back_47 (by decide) ?_
          exact zr_iret (pc := 49) h dX11_back_49 (zRp hf).1 (zRp hf).2
        · have hf := hf.2 b3
          refine zr_aload_n (pc := 37) h dX11_back_37 rfl rfl ?_
          refine zf_X11_44 (pc := 38) h gkc_0 dX11_back_38 ?_
          refine zf_X11_127 (pc := 41) h gkc_34 dX11_back_41 ?_
          refine zr_goto (pc := 44) (tgt := 49) h dX11_back_44 rfl ?_
          exact zr_iret (pc := 49) h dX11_back_49 (zRp hf).1 (zRp hf).2
      · have hf := hf.2 b4
        refine zr_bipush (pc := 19) (v := (-2 : Int32)) h dX11_back_19 (by decide) ?_
        exact zr_iret (pc := 21) h dX11_back_21 (zRp hf).1 (zRp hf).2

