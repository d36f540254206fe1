set_option maxRecDepth 100000 in
set_option maxHeartbeats 4000000 in
theorem cX0_copyFrom_ok {l : Launch} {g : gG} {p0 : Nat} {p1 : Nat} {μ : gM} {ν : gM} (h0 : gk p0 = (0, 0)) (h1 : gk p1 = (0, 0)) (hf : fX0_copyFrom p0 p1 μ = some ν) : gMet l g yX0_copyFrom cX0_copyFrom 2 none 1 60 [.ref (g.1 + p0), .ref (g.1 + p1)] μ none ν := by
  refine gMet_of (gIni [.ref (g.1 + p0), .ref (g.1 + p1)] ++ List.replicate 0 none) (by decide) (gIni_ok _ _) (Nat.le_of_ble_eq_true rfl) (fun K h => ?_)
  show K 0 [some (.ref (g.1 + p0)), some (.ref (g.1 + p1))] [] μ
  unfold fX0_copyFrom at hf
  refine zr_aload_n (pc := 0) h dX0_copyFrom_0 rfl rfl ?_
  refine zr_aload_n (pc := 1) h dX0_copyFrom_1 rfl rfl ?_
  refine zf_X0_15 (pc := 2) h h1 dX0_copyFrom_2 ?_
  refine zp_X0_15 (pc := 5) h h0 dX0_copyFrom_5 ?_
  refine zr_mu h (fun μ1 eμ1 => ?_)
  have hf := zLt_s eμ1 hf
  refine zr_aload_n (pc := 8) h dX0_copyFrom_8 rfl rfl ?_
  refine zr_aload_n (pc := 9) h dX0_copyFrom_9 rfl rfl ?_
  refine zf_X0_19 (pc := 10) h h1 dX0_copyFrom_10 ?_
  refine zp_X0_19 (pc := 13) h h0 dX0_copyFrom_13 ?_
  refine zr_mu h (fun μ2 eμ2 => ?_)
  have hf := zLt_s eμ2 hf
  refine zr_aload_n (pc := 16) h dX0_copyFrom_16 rfl rfl ?_
  refine zf_X0_11 (pc := 17) h h1 dX0_copyFrom_17 ?_
  refine zr_iconst (pc := 20) (v := (0 : Int32)) h dX0_copyFrom_20 (by decide) ?_
  refine zr_aload_n (pc := 21) h dX0_copyFrom_21 rfl rfl ?_
  refine zf_X0_11 (pc := 22) h h0 dX0_copyFrom_22 ?_
  refine zr_iconst (pc := 25) (v := (0 : Int32)) h dX0_copyFrom_25 (by decide) ?_
  refine zr_sipush (pc := 26) (v := (240 : Int32)) h dX0_copyFrom_26 (by decide) ?_
  refine zr_copy (pc := 29) h (gd_X0_2 h1) (gd_X0_2 h0) (by decide) (by decide) (by decide) (by decide) (by decide) zw_940 zw_825 zw_824 zw_197 (by decide) (by decide) dX0_copyFrom_29 ?_
  refine zr_mu h (fun μ3 eμ3 => ?_)
  have hf := zLt_s eμ3 hf
  exact zr_vret (pc := 32) h dX0_copyFrom_32 rfl (zRv hf)

set_option maxRecDepth 100000 in
set_option maxHeartbeats 4000000 in
theorem fX0_add_n46_ok {l : Launch} {g : gG} {p0 : Nat} {ν : gM} {K : gKt} (h : gR l g cX0_add RX0 6 none (gRm 0 0) none ν K) (h0 : gk p0 = (0, 0)) {y1 : Int32} {y2 : Int32} {y3 : Int32} {y4 : Int32} {z0 : Int32} {μ : gM} (hf : fX0_add_n46 p0 y1 y2 y3 y4 z0 μ = some ν) : K 46 [some (.ref (g.1 + p0)), some (.int y1), some (.int y2), some (.int y3), some (.int y4), none] [.int z0, .ref (g.1 + p0)] μ := by
  unfold fX0_add_n46 at hf
  refine zp_X0_15 (pc := 46) h h0 dX0_add_46 ?_
  refine zr_mu h (fun μ2 eμ2 => ?_)
  have hf := zLt_s eμ2 hf
  refine zr_aload_n (pc := 49) h dX0_add_49 rfl rfl ?_
  refine zf_X0_19 (pc := 50) h h0 dX0_add_50 ?_
  refine zr_iconst (pc := 53) (v := (4 : Int32)) h dX0_add_53 (by decide) ?_
  refine zr_imul (pc := 54) h dX0_add_54 ?_
  refine zr_topi h (fun x3 ex3 => ?_)
  have hf := zLt_s ex3 hf
  refine zr_istore (pc := 55) h dX0_add_55 (by decide) rfl ?_
  refine zr_aload_n (pc := 57) h dX0_add_57 rfl rfl ?_
  refine zf_X0_11 (pc := 58) h h0 dX0_add_58 ?_
  refine zr_iload (pc := 61) h dX0_add_61 rfl ?_
  refine zr_iload_n (pc := 63) h dX0_add_63 rfl rfl ?_
  obtain ⟨q4, hf⟩ := zCk_s hf
  refine zr_iast (pc := 64) h (gd_X0_2 h0) q4 rfl dX0_add_64 ?_
  refine zr_mu h (fun μ5 eμ5 => ?_)
  have hf := zLt_s eμ5 hf
  refine zr_aload_n (pc := 65) h dX0_add_65 rfl rfl ?_
  refine zf_X0_11 (pc := 66) h h0 dX0_add_66 ?_
  refine zr_iload (pc := 69) h dX0_add_69 rfl ?_
  refine zr_iconst (pc := 71) (v := (1 : Int32)) h dX0_add_71 (by decide) ?_
  refine zr_iadd (pc := 72) h dX0_add_72 ?_
  refine zr_iload_n (pc := 73) h dX0_add_73 rfl rfl ?_
  obtain ⟨q6, hf⟩ := zCk_s hf
  refine zr_iast (pc := 74) h (gd_X0_2 h0) q6 rfl dX0_add_74 ?_
  refine zr_mu h (fun μ7 eμ7 => ?_)
  have hf := zLt_s eμ7 hf
  refine zr_aload_n (pc := 75) h dX0_add_75 rfl rfl ?_
  refine zf_X0_11 (pc := 76) h h0 dX0_add_76 ?_
  refine zr_iload (pc := 79) h dX0_add_79 rfl ?_
  refine zr_iconst (pc := 81) (v := (2 : Int32)) h dX0_add_81 (by decide) ?_
  refine zr_iadd (pc := 82) h dX0_add_82 ?_
  refine zr_iload_n (pc := 83) h dX0_add_83 rfl rfl ?_
  obtain ⟨q8, hf⟩ := zCk_s hf
  refine zr_iast (pc := 84) h (gd_X0_2 h0) q8 rfl dX0_add_84 ?_
  refine zr_mu h (fun μ9 eμ9 => ?_)
  have hf := zLt_s eμ9 hf
  refine zr_aload_n (pc := 85) h dX0_add_85 rfl rfl ?_
  refine zf_X0_11 (pc := 86) h h0 dX0_add_86 ?_
  refine zr_iload (pc := 89) h dX0_add_89 rfl ?_
  refine zr_iconst (pc := 91) (v := (3 : Int32)) h dX0_add_91 (by decide) ?_
  refine zr_iadd (pc := 92) h dX0_add_92 ?_
  refine zr_iload (pc := 93) h dX0_add_93 rfl ?_
  obtain ⟨q10, hf⟩ := zCk_s hf
  refine zr_iast (pc := 95) h (gd_X0_2 h0) q10 rfl dX0_add_95 ?_
  refine zr_mu h (fun μ11 eμ11 => ?_)
  have hf := zLt_s eμ11 hf
  exact zr_vret (pc := 96) h dX0_add_96 rfl (zRv hf)

set_option maxRecDepth 100000 in
set_option maxHeartbeats 4000000 in
theorem fX0_add_n22_ok {l : Launch} {g : gG} {p0 : Nat} {ν : gM} {K : gKt} (h : gR l g cX0_add RX0 6 none (gRm 0 0) none ν K) (h0 : gk p0 = (0, 0)) {y1 : Int32} {y2 : Int32} {y3 : Int32} {y4 : Int32} {z0 : Int32} {μ : gM} (hf : fX0_add_n22 p0 y1 y2 y3 y4 z0 μ = some ν) : K 22 [some (.ref (g.1 + p0)), some (.int y1), some (.int y2), some (.int y3), some (.int y4), none] [.int z0, .ref (g.1 + p0)] μ := by
  unfold fX0_add_n22 at hf
  refine zp_X0_19 (pc := 22) h h0 dX0_add_22 ?_
  refine zr_mu h (fun μ1 eμ1 => ?_)
  have hf := zLt_s eμ1 hf
  refine zr_aload_n (pc := 25) h dX0_add_25 rfl rfl ?_
  refine zr_aload_n (pc := 26) h dX0_add_26 rfl rfl ?_
  refine zf_X0_15 (pc := 27) h h0 dX0_add_27 ?_
  refine zr_bipush (pc := 30) (v := (60 : Int32)) h dX0_add_30 (by decide) ?_
  have hf := zIf_s hf
  refine zr_icmp_ge (pc := 32) (tgt := 44) h dX0_add_32 rfl (fun b12 => ?_) (fun b12 => ?_)
  · have hf := hf.1 b12
    refine zr_bipush (pc := 44) (v := (60 : Int32)) h dX0_add_44 (by decide) ?_
    exact zr_weak h [true, true, true, true, true, false] (fX0_add_n46_ok h h0 hf)
  · have hf := hf.2 b12
    refine zr_aload_n (pc := 35) h dX0_add_35 rfl rfl ?_
    refine zf_X0_15 (pc := 36) h h0 dX0_add_36 ?_
    refine zr_iconst (pc := 39) (v := (1 : Int32)) h dX0_add_39 (by decide) ?_
    refine zr_iadd (pc := 40) h dX0_add_40 ?_
    refine zr_goto (pc := 41) (tgt := 46) h dX0_add_41 rfl ?_
    exact zr_weak h [true, true, true, true, true, false] (fX0_add_n46_ok h h0 hf)

set_option maxRecDepth 100000 in
set_option maxHeartbeats 4000000 in
theorem cX0_add_ok {l : Launch} {g : gG} {p0 : Nat} {a1 : Int32} {a2 : Int32} {a3 : Int32} {a4 : Int32} {μ : gM} {ν : gM} (h0 : gk p0 = (0, 0)) (hf : fX0_add p0 a1 a2 a3 a4 μ = some ν) : gMet l g yX0_add cX0_add 6 none 0 0 [.ref (g.1 + p0), .int a1, .int a2, .int a3, .int a4] μ none ν := by
  refine gMet_of (gIni [.ref (g.1 + p0), .int a1, .int a2, .int a3, .int a4] ++ List.replicate 1 none) (by decide) (gIni_ok _ _) (Nat.le_of_ble_eq_true rfl) (fun K h => ?_)
  show K 0 [some (.ref (g.1 + p0)), some (.int a1), some (.int a2), some (.int a3), some (.int a4), none] [] μ
  unfold fX0_add at hf
  refine zr_aload_n (pc := 0) h dX0_add_0 rfl rfl ?_
  refine zr_aload_n (pc := 1) h dX0_add_1 rfl rfl ?_
  refine zf_X0_19 (pc := 2) h h0 dX0_add_2 ?_
  refine zr_iconst (pc := 5) (v := (1 : Int32)) h dX0_add_5 (by decide) ?_
  refine zr_iadd (pc := 6) h dX0_add_6 ?_
  refine zr_bipush (pc := 7) (v := (60 : Int32)) h dX0_add_7 (by decide) ?_
  have hf := zIf_s hf
  refine zr_icmp_ge (pc := 9) (tgt := 21) h dX0_add_9 rfl (fun b13 => ?_) (fun b13 => ?_)
  · have hf := hf.1 b13
    refine zr_iconst (pc := 21) (v := (0 : Int32)) h dX0_add_21 (by decide) ?_
    exact zr_weak h [true, true, true, true, true, false] (fX0_add_n22_ok h h0 hf)
  · have hf := hf.2 b13
    refine zr_aload_n (pc := 12) h dX0_add_12 rfl rfl ?_
    refine zf_X0_19 (pc := 13) h h0 dX0_add_13 ?_
    refine zr_iconst (pc := 16) (v := (1 : Int32)) h dX0_add_16 (by decide) ?_
    refine zr_iadd (pc := 17) h dX0_add_17 ?_
    refine zr_goto (pc := 18) (tgt := 22) h dX0_add_18 rfl ?_
    exact zr_weak h [true, true, true, true, true, false] (fX0_add_n22_ok h h0 hf)

set_option maxRecDepth 100000 in
set_option maxHeartbeats 4000000 in
theorem fX0_read_n49_ok {l : Launch} {g : gG} {p0 : Nat} {r : Int32} {μe : gM} {K : gKt} (h : gR l g cX0_read RX0 4 (some .int) (gRm 0 0) (some (.int r)) μe K) (h0 : gk p0 = (0, 0)) {y2 : Int32} {z0 : Int32} (hf : fX0_read_n49 p0 y2 z0 μe = some r) : K 49 [some (.ref (g.1 + p0)), none, some (.int y2), none] [.int z0] μe := by
  unfold fX0_read_n49 at hf
  refine zr_istore_n (pc := 49) h dX0_read_49 rfl (by decide) rfl ?_
  refine zr_aload_n (pc := 50) h dX0_read_50 rfl rfl ?_
  refine zf_X0_11 (pc := 51) h h0 dX0_read_51 ?_
  refine zr_iload_n (pc := 54) h dX0_read_54 rfl rfl ?_
  refine zr_iconst (pc := 55) (v := (4 : Int32)) h dX0_read_55 (by decide) ?_
  refine zr_imul (pc := 56) h dX0_read_56 ?_
  refine zr_iload_n (pc := 57) h dX0_read_57 rfl rfl ?_
  refine zr_iadd (pc := 58) h dX0_read_58 ?_
  obtain ⟨q1, hf⟩ := zCk_s hf
  refine zr_iald (pc := 59) h (gd_X0_2 h0) q1 rfl dX0_read_59 ?_
  exact zr_iret (pc := 60) h dX0_read_60 (zRi hf) rfl

set_option maxRecDepth 100000 in
set_option maxHeartbeats 4000000 in
theorem cX0_read_ok {l : Launch} {g : gG} {p0 : Nat} {a1 : Int32} {a2 : Int32} {μ : gM} {r : Int32} (h0 : gk p0 = (0, 0)) (hf : fX0_read p0 a1 a2 μ = some r) : gMet l g yX0_read cX0_read 4 (some .int) 0 0 [.ref (g.1 + p0), .int a1, .int a2] μ (some (.int r)) μ := by
  refine gMet_of (gIni [.ref (g.1 + p0), .int a1, .int a2] ++ List.replicate 1 none) (by decide) (gIni_ok _ _) (Nat.le_of_ble_eq_true rfl) (fun K h => ?_)
  show K 0 [some (.ref (g.1 + p0)), some (.int a1), some (.int a2), none] [] μ
  unfold fX0_read at hf
  refine zr_iload_n (pc := 0) h dX0_read_0 rfl rfl ?_
  have hf := zIf_s hf
  refine zr_if_lt (pc := 1) (tgt := 21) h dX0_read_1 rfl (fun b6 => ?_) (fun b6 => ?_)
  · have hf := hf.1 b6
    refine zr_iconst (pc := 21) (v := (-1 : Int32)) h dX0_read_21 (by decide) ?_
    exact zr_iret (pc := 22) h dX0_read_22 (zRi hf) rfl
  · have hf := hf.2 b6
    refine zr_iload_n (pc := 4) h dX0_read_4 rfl rfl ?_
    refine zr_aload_n (pc := 5) h dX0_read_5 rfl rfl ?_
    refine zf_X0_15 (pc := 6) h h0 dX0_read_6 ?_
    have hf := zIf_s hf
    refine zr_icmp_ge (pc := 9) (tgt := 21) h dX0_read_9 rfl (fun b5 => ?_) (fun b5 => ?_)
    · have hf := hf.1 b5
      refine zr_iconst (pc := 21) (v := (-1 : Int32)) h dX0_read_21 (by decide) ?_
      exact zr_iret (pc := 22) h dX0_read_22 (zRi hf) rfl
    · have hf := hf.2 b5
      refine zr_iload_n (pc := 12) h dX0_read_12 rfl rfl ?_
      have hf := zIf_s hf
      refine zr_if_lt (pc := 13) (tgt := 21) h dX0_read_13 rfl (fun b4 => ?_) (fun b4 => ?_)
      · have hf := hf.1 b4
        refine zr_iconst (pc := 21) (v := (-1 : Int32)) h dX0_read_21 (by decide) ?_
        exact zr_iret (pc := 22) h dX0_read_22 (zRi hf) rfl
      · have hf := hf.2 b4
        refine zr_iload_n (pc := 16) h dX0_read_16 rfl rfl ?_
        refine zr_iconst (pc := 17) (v := (4 : Int32)) h dX0_read_17 (by decide) ?_
        have hf := zIf_s hf
        refine zr_icmp_lt (pc := 18) (tgt := 23) h dX0_read_18 rfl (fun b3 => ?_) (fun b3 => ?_)
        · have hf := hf.1 b3
          refine zr_aload_n (pc := 23) h dX0_read_23 rfl rfl ?_
          refine zf_X0_19 (pc := 24) h h0 dX0_read_24 ?_
          refine zr_iload_n (pc := 27) h dX0_read_27 rfl rfl ?_
          have hf := zIf_s hf
          refine zr_icmp_lt (pc := 28) (tgt := 40) h dX0_read_28 rfl (fun b2 => ?_) (fun b2 => ?_)
          · have hf := hf.1 b2
            refine zr_aload_n (pc := 40) h dX0_read_40 rfl rfl ?_
            refine zf_X0_19 (pc := 41) h h0 dX0_read_41 ?_
            refine zr_iload_n (pc := 44) h dX0_read_44 rfl rfl ?_
            refine zr_isub (pc := 45) h dX0_read_45 ?_
            refine zr_bipush (pc := 46) (v := (60 : Int32)) h dX0_read_46 (by decide) ?_
            refine zr_iadd (pc := 48) h dX0_read_48 ?_
            exact zr_weak h [true, false, true, false] (fX0_read_n49_ok h h0 hf)
          · have hf := hf.2 b2
            refine zr_aload_n (pc := 31) h dX0_read_31 rfl rfl ?_
            refine zf_X0_19 (pc := 32) h h0 dX0_read_32 ?_
            refine zr_iload_n (pc := 35) h dX0_read_35 rfl rfl ?_
            refine zr_isub (pc := 36) h dX0_read_36 ?_
            refine zr_goto (pc := 37) (tgt := 49) h dX0_read_37 rfl ?_
            exact zr_weak h [true, false, true, false] (fX0_read_n49_ok h h0 hf)
        · have hf := hf.2 b3
          refine zr_iconst (pc := 21) (v := (-1 : Int32)) h dX0_read_21 (by decide) ?_
          exact zr_iret (pc := 22) h dX0_read_22 (zRi hf) rfl

set_option maxRecDepth 100000 in
set_option maxHeartbeats 4000000 in
theorem cJ6_bitCount_0f7a4_ok {l : Launch} {g : gG} {a1 : Int32} {μ : gM} {r : Int32} (hf : fJ6_bitCount_0f7a4 a1 μ = some r) : gMet l g yJ6_bitCount_0f7a4 cJ6_bitCount_0f7a4 1 (some .int) 0 0 [.int a1] μ (some (.int r)) μ := by
  refine gMet_of (gIni [.int a1] ++ List.replicate 0 none) (by decide) (gIni_ok _ _) (Nat.le_of_ble_eq_true rfl) (fun K h => ?_)
  show K 0 [some (.int a1)] [] μ
  unfold fJ6_bitCount_0f7a4 at hf
  refine zr_iload_n (pc := 0) h dJ6_bitCount_0f7a4_0 rfl rfl ?_
  refine zr_iload_n (pc := 1) h dJ6_bitCount_0f7a4_1 rfl rfl ?_
  refine zr_iconst (pc := 2) (v := (1 : Int32)) h dJ6_bitCount_0f7a4_2 (by decide) ?_
  refine zr_iushr (pc := 3) h dJ6_bitCount_0f7a4_3 ?_
  refine zr_ldcw (pc := 4) h zw_966 dJ6_bitCount_0f7a4_4 ?_
  refine zr_iand (pc := 7) h dJ6_bitCount_0f7a4_7 ?_
  refine zr_isub (pc := 8) h dJ6_bitCount_0f7a4_8 ?_
  refine zr_topi h (fun x1 ex1 => ?_)
  have hf := zLt_s ex1 hf
  refine zr_istore_n (pc := 9) h dJ6_bitCount_0f7a4_9 rfl (by decide) rfl ?_
  refine zr_iload_n (pc := 10) h dJ6_bitCount_0f7a4_10 rfl rfl ?_
  refine zr_ldcw (pc := 11) h zw_967 dJ6_bitCount_0f7a4_11 ?_
  refine zr_iand (pc := 14) h dJ6_bitCount_0f7a4_14 ?_
  refine zr_iload_n (pc := 15) h dJ6_bitCount_0f7a4_15 rfl rfl ?_
  refine zr_iconst (pc := 16) (v := (2 : Int32)) h dJ6_bitCount_0f7a4_16 (by decide) ?_
  refine zr_iushr (pc := 17) h dJ6_bitCount_0f7a4_17 ?_
  refine zr_ldcw (pc := 18) h zw_967 dJ6_bitCount_0f7a4_18 ?_
  refine zr_iand (pc := 21) h dJ6_bitCount_0f7a4_21 ?_
  refine zr_iadd (pc := 22) h dJ6_bitCount_0f7a4_22 ?_
  refine zr_topi h (fun x2 ex2 => ?_)
  have hf := zLt_s ex2 hf
  refine zr_istore_n (pc := 23) h dJ6_bitCount_0f7a4_23 rfl (by decide) rfl ?_
  refine zr_iload_n (pc := 24) h dJ6_bitCount_0f7a4_24 rfl rfl ?_
  refine zr_iload_n (pc := 25) h dJ6_bitCount_0f7a4_25 rfl rfl ?_
  refine zr_iconst (pc := 26) (v := (4 : Int32)) h dJ6_bitCount_0f7a4_26 (by decide) ?_
  refine zr_iushr (pc := 27) h dJ6_bitCount_0f7a4_27 ?_
  refine zr_iadd (pc := 28) h dJ6_bitCount_0f7a4_28 ?_
  refine zr_ldcw (pc := 29) h zw_968 dJ6_bitCount_0f7a4_29 ?_
  refine zr_iand (pc := 32) h dJ6_bitCount_0f7a4_32 ?_
  refine zr_topi h (fun x3 ex3 => ?_)
  have hf := zLt_s ex3 hf
  refine zr_istore_n (pc := 33) h dJ6_bitCount_0f7a4_33 rfl (by decide) rfl ?_
  refine zr_iload_n (pc := 34) h dJ6_bitCount_0f7a4_34 rfl rfl ?_
  refine zr_iload_n (pc := 35) h dJ6_bitCount_0f7a4_35 rfl rfl ?_
  refine zr_bipush (pc := 36) (v := (8 : Int32)) h dJ6_bitCount_0f7a4_36 (by decide) ?_
  refine zr_iushr (pc := 38) h dJ6_bitCount_0f7a4_38 ?_
  refine zr_iadd (pc := 39) h dJ6_bitCount_0f7a4_39 ?_
  refine zr_topi h (fun x4 ex4 => ?_)
  have hf := zLt_s ex4 hf
  refine zr_istore_n (pc := 40) h dJ6_bitCount_0f7a4_40 rfl (by decide) rfl ?_
  refine zr_iload_n (pc := 41) h dJ6_bitCount_0f7a4_41 rfl rfl ?_
  refine zr_iload_n (pc := 42) h dJ6_bitCount_0f7a4_42 rfl rfl ?_
  refine zr_bipush (pc := 43) (v := (16 : Int32)) h dJ6_bitCount_0f7a4_43 (by decide) ?_
  refine zr_iushr (pc := 45) h dJ6_bitCount_0f7a4_45 ?_
  refine zr_iadd (pc := 46) h dJ6_bitCount_0f7a4_46 ?_
  refine zr_topi h (fun x5 ex5 => ?_)
  have hf := zLt_s ex5 hf
  refine zr_istore_n (pc := 47) h dJ6_bitCount_0f7a4_47 rfl (by decide) rfl ?_
  refine zr_iload_n (pc := 48) h dJ6_bitCount_0f7a4_48 rfl rfl ?_
  refine zr_bipush (pc := 49) (v := (63 : Int32)) h dJ6_bitCount_0f7a4_49 (by decide) ?_
  refine zr_iand (pc := 51) h dJ6_bitCount_0f7a4_51 ?_
  exact zr_iret (pc := 52) h dJ6_bitCount_0f7a4_52 (zRi hf) rfl

set_option maxRecDepth 100000 in
set_option maxHeartbeats 4000000 in
theorem cX5_copyFrom_ok {l : Launch} {g : gG} {p0 : Nat} {p1 : Nat} {μ : gM} {ν : gM} (h0 : gk p0 = (0, 5)) (h1 : gk p1 = (0, 5)) (hf : fX5_copyFrom p0 p1 μ = some ν) : gMet l g yX5_copyFrom cX5_copyFrom 2 none 1 60 [.ref (g.1 + p0), .ref (g.1 + p1)] μ none ν := by
  refine gMet_of (gIni [.ref (g.1 + p0), .ref (g.1 + p1)] ++ List.replicate 0 none) (by decide) (gIni_ok _ _) (Nat.le_of_ble_eq_true rfl) (fun K h => ?_)
  show K 0 [some (.ref (g.1 + p0)), some (.ref (g.1 + p1))] [] μ
  unfold fX5_copyFrom at hf
  refine zr_aload_n (pc := 0) h dX5_copyFrom_0 rfl rfl ?_
  refine zr_aload_n (pc := 1) h dX5_copyFrom_1 rfl rfl ?_
  refine zf_X5_15 (pc := 2) h h1 dX5_copyFrom_2 ?_
  refine zp_X5_15 (pc := 5) h h0 dX5_copyFrom_5 ?_
  refine zr_mu h (fun μ1 eμ1 => ?_)
  have hf := zLt_s eμ1 hf
  refine zr_aload_n (pc := 8) h dX5_copyFrom_8 rfl rfl ?_
  refine zf_X5_11 (pc := 9) h h1 dX5_copyFrom_9 ?_
  refine zr_iconst (pc := 12) (v := (0 : Int32)) h dX5_copyFrom_12 (by decide) ?_
  refine zr_aload_n (pc := 13) h dX5_copyFrom_13 rfl rfl ?_
  refine zf_X5_11 (pc := 14) h h0 dX5_copyFrom_14 ?_
  refine zr_iconst (pc := 17) (v := (0 : Int32)) h dX5_copyFrom_17 (by decide) ?_
  refine zr_bipush (pc := 18) (v := (100 : Int32)) h dX5_copyFrom_18 (by decide) ?_
  refine zr_copy (pc := 20) h (gd_X5_1 h1) (gd_X5_1 h0) (by decide) (by decide) (by decide) (by decide) (by decide) zw_935 zw_825 zw_824 zw_197 (by decide) (by decide) dX5_copyFrom_20 ?_
  refine zr_mu h (fun μ2 eμ2 => ?_)
  have hf := zLt_s eμ2 hf
  exact zr_vret (pc := 23) h dX5_copyFrom_23 rfl (zRv hf)

set_option maxRecDepth 100000 in
set_option maxHeartbeats 4000000 in
theorem cX5_at_ok {l : Launch} {g : gG} {p0 : Nat} {a1 : Int32} {μ : gM} {r : Int32} (h0 : gk p0 = (0, 5)) (hf : fX5_at p0 a1 μ = some r) : gMet l g yX5_at cX5_at 2 (some .int) 0 0 [.ref (g.1 + p0), .int a1] μ (some (.int r)) μ := by
  refine gMet_of (gIni [.ref (g.1 + p0), .int a1] ++ List.replicate 0 none) (by decide) (gIni_ok _ _) (Nat.le_of_ble_eq_true rfl) (fun K h => ?_)
  show K 0 [some (.ref (g.1 + p0)), some (.int a1)] [] μ
  unfold fX5_at at hf
  refine zr_aload_n (pc := 0) h dX5_at_0 rfl rfl ?_
  refine zf_X5_11 (pc := 1) h h0 dX5_at_1 ?_
  refine zr_iload_n (pc := 4) h dX5_at_4 rfl rfl ?_
  refine zr_iconst (pc := 5) (v := (5 : Int32)) h dX5_at_5 (by decide) ?_
  refine zr_imul (pc := 6) h dX5_at_6 ?_
  obtain ⟨q1, hf⟩ := zCk_s hf
  refine zr_iald (pc := 7) h (gd_X5_1 h0) q1 rfl dX5_at_7 ?_
  exact zr_iret (pc := 8) h dX5_at_8 (zRi hf) rfl

set_option maxRecDepth 100000 in
set_option maxHeartbeats 4000000 in
theorem cX5_add_ok {l : Launch} {g : gG} {p0 : Nat} {a1 : Int32} {a2 : Int32} {a3 : Int32} {a4 : Int32} {a5 : Int32} {μ : gM} {ν : gM} (h0 : gk p0 = (0, 5)) (hf : fX5_add p0 a1 a2 a3 a4 a5 μ = some ν) : gMet l g yX5_add cX5_add 7 none 0 0 [.ref (g.1 + p0), .int a1, .int a2, .int a3, .int a4, .int a5] μ none ν := by
  refine gMet_of (gIni [.ref (g.1 + p0), .int a1, .int a2, .int a3, .int a4, .int a5] ++ List.replicate 1 none) (by decide) (gIni_ok _ _) (Nat.le_of_ble_eq_true rfl) (fun K h => ?_)
  show K 0 [some (.ref (g.1 + p0)), some (.int a1), some (.int a2), some (.int a3), some (.int a4), some (.int a5), none] [] μ
  unfold fX5_add at hf
  refine zr_aload_n (pc := 0) h dX5_add_0 rfl rfl ?_
  refine zf_X5_15 (pc := 1) h h0 dX5_add_1 ?_
  refine zr_bipush (pc := 4) (v := (20 : Int32)) h dX5_add_4 (by decide) ?_
  have hf := zIf_s hf
  refine zr_icmp_lt (pc := 6) (tgt := 10) h dX5_add_6 rfl (fun b13 => ?_) (fun b13 => ?_)
  · have hf := hf.1 b13
    refine zr_aload_n (pc := 10) h dX5_add_10 rfl rfl ?_
    refine zf_X5_15 (pc := 11) h h0 dX5_add_11 ?_
    refine zr_iconst (pc := 14) (v := (5 : Int32)) h dX5_add_14 (by decide) ?_
    refine zr_imul (pc := 15) h dX5_add_15 ?_
    refine zr_topi h (fun x1 ex1 => ?_)
    have hf := zLt_s ex1 hf
    refine zr_istore (pc := 16) h dX5_add_16 (by decide) rfl ?_
    refine zr_aload_n (pc := 18) h dX5_add_18 rfl rfl ?_
    refine zf_X5_11 (pc := 19) h h0 dX5_add_19 ?_
    refine zr_iload (pc := 22) h dX5_add_22 rfl ?_
    refine zr_iload_n (pc := 24) h dX5_add_24 rfl rfl ?_
    obtain ⟨q2, hf⟩ := zCk_s hf
    refine zr_iast (pc := 25) h (gd_X5_1 h0) q2 rfl dX5_add_25 ?_
    refine zr_mu h (fun μ3 eμ3 => ?_)
    have hf := zLt_s eμ3 hf
    refine zr_aload_n (pc := 26) h dX5_add_26 rfl rfl ?_
    refine zf_X5_11 (pc := 27) h h0 dX5_add_27 ?_
    refine zr_iload (pc := 30) h dX5_add_30 rfl ?_
    refine zr_iconst (pc := 32) (v := (1 : Int32)) h dX5_add_32 (by decide) ?_
    refine zr_iadd (pc := 33) h dX5_add_33 ?_
    refine zr_iload_n (pc := 34) h dX5_add_34 rfl rfl ?_
    obtain ⟨q4, hf⟩ := zCk_s hf
    refine zr_iast (pc := 35) h (gd_X5_1 h0) q4 rfl dX5_add_35 ?_
    refine zr_mu h (fun μ5 eμ5 => ?_)
    have hf := zLt_s eμ5 hf
    refine zr_aload_n (pc := 36) h dX5_add_36 rfl rfl ?_
    refine zf_X5_11 (pc := 37) h h0 dX5_add_37 ?_
    refine zr_iload (pc := 40) h dX5_add_40 rfl ?_
    refine zr_iconst (pc := 42) (v := (2 : Int32)) h dX5_add_42 (by decide) ?_
    refine zr_iadd (pc := 43) h dX5_add_43 ?_
    refine zr_iload_n (pc := 44) h dX5_add_44 rfl rfl ?_
    obtain ⟨q6, hf⟩ := zCk_s hf
    refine zr_iast (pc := 45) h (gd_X5_1 h0) q6 rfl dX5_add_45 ?_
    refine zr_mu h (fun μ7 eμ7 => ?_)
    have hf := zLt_s eμ7 hf
    refine zr_aload_n (pc := 46) h dX5_add_46 rfl rfl ?_
    refine zf_X5_11 (pc := 47) h h0 dX5_add_47 ?_
    refine zr_iload (pc := 50) h dX5_add_50 rfl ?_
    refine zr_iconst (pc := 52) (v := (3 : Int32)) h dX5_add_52 (by decide) ?_
    refine zr_iadd (pc := 53) h dX5_add_53 ?_
    refine zr_iload (pc := 54) h dX5_add_54 rfl ?_
    obtain ⟨q8, hf⟩ := zCk_s hf
    refine zr_iast (pc := 56) h (gd_X5_1 h0) q8 rfl dX5_add_56 ?_
    refine zr_mu h (fun μ9 eμ9 => ?_)
    have hf := zLt_s eμ9 hf
    refine zr_aload_n (pc := 57) h dX5_add_57 rfl rfl ?_
    refine zf_X5_11 (pc := 58) h h0 dX5_add_58 ?_
    refine zr_iload (pc := 61) h dX5_add_61 rfl ?_
    refine zr_iconst (pc := 63) (v := (4 : Int32)) h dX5_add_63 (by decide) ?_
    refine zr_iadd (pc := 64) h dX5_add_64 ?_
    refine zr_iload (pc := 65) h dX5_add_65 rfl ?_
    obtain ⟨q10, hf⟩ := zCk_s hf
    refine zr_iast (pc := 67) h (gd_X5_1 h0) q10 rfl dX5_add_67 ?_
    refine zr_mu h (fun μ11 eμ11 => ?_)
    have hf := zLt_s eμ11 hf
    refine zr_aload_n (pc := 68) h dX5_add_68 rfl rfl ?_
    refine zr_dup (pc := 69) h dX5_add_69 rfl ?_
    refine zf_X5_15 (pc := 70) h h0 dX5_add_70 ?_
    refine zr_iconst (pc := 73) (v := (1 : Int32)) h dX5_add_73 (by decide) ?_
    refine zr_iadd (pc := 74) h dX5_add_74 ?_
    refine zp_X5_15 (pc := 75) h h0 dX5_add_75 ?_
    refine zr_mu h (fun μ12 eμ12 => ?_)
    have hf := zLt_s eμ12 hf
    exact zr_vret (pc := 78) h dX5_add_78 rfl (zRv hf)
  · have hf := hf.2 b13
    exact zr_vret (pc := 9) h dX5_add_9 rfl (zRv hf)

set_option maxRecDepth 100000 in
set_option maxHeartbeats 4000000 in
theorem fX5_firstFrom_l2_ok {l : Launch} {g : gG} {p0 : Nat} {r : Int32} {μe : gM} {K : gKt} (h : gR l g cX5_firstFrom RX5 3 (some .int) (gRm 1 21) (some (.int r)) μe K) (h0 : gk p0 = (0, 5)) : ∀ (n : Nat) (y1 : Int32) (y2 : Int32), fX5_firstFrom_l2 p0 n y1 y2 μe = some r → K 2 [some (.ref (g.1 + p0)), some (.int y1), some (.int y2)] [] μe := by
  intro n
  induction n with
  | zero =>
    intro y1 y2 hf
    cases (show (none : Option Int32) = some _ from hf)
  | succ n ih =>
    intro y1 y2 hf
    unfold fX5_firstFrom_l2 at hf
    refine zr_iload_n (pc := 2) h dX5_firstFrom_2 rfl rfl ?_
    refine zr_aload_n (pc := 3) h dX5_firstFrom_3 rfl rfl ?_
    refine zf_X5_15 (pc := 4) h h0 dX5_firstFrom_4 ?_
    have hf := zIf_s hf
    refine zr_icmp_ge (pc := 7) (tgt := 25) h dX5_firstFrom_7 rfl (fun b4 => ?_) (fun b4 => ?_)
    · have hf := hf.1 b4
      refine zr_iload_n (pc := 25) h dX5_firstFrom_25 rfl rfl ?_
      exact zr_iret (pc := 26) h dX5_firstFrom_26 (zRi hf) rfl
    · have hf := hf.2 b4
      refine zr_aload_n (pc := 10) h dX5_firstFrom_10 rfl rfl ?_
      refine zr_iload_n (pc := 11) h dX5_firstFrom_11 rfl rfl ?_
      obtain ⟨x1, ex1, hf⟩ := zBd_s hf
      refine zm_X5_25 (pc := 12) h h0 ⟨by decide, by decide⟩ (cX5_at_ok h0 ex1) rfl (Nat.le_of_ble_eq_true rfl) dX5_firstFrom_12 rfl ?_
      refine zr_iload_n (pc := 15) h dX5_firstFrom_15 rfl rfl ?_
      have hf := zIf_s hf
      refine zr_icmp_ge (pc := 16) (tgt := 25) h dX5_firstFrom_16 rfl (fun b3 => ?_) (fun b3 => ?_)
      · have hf := hf.1 b3
        refine zr_iload_n (pc := 25) h dX5_firstFrom_25 rfl rfl ?_
        exact zr_iret (pc := 26) h dX5_firstFrom_26 (zRi hf) rfl
      · have hf := hf.2 b3
        refine zr_iincx (pc := 19) h dX5_firstFrom_19 rfl (by decide) rfl (c := (1 : Int32)) (by decide) (fun x2 ex2 => ?_)
        have hf := zLt_s ex2 hf
        refine zr_goto (pc := 22) (tgt := 2) h dX5_firstFrom_22 rfl ?_
        exact zr_weak h [true, true, true] (ih _ _ hf)

set_option maxRecDepth 100000 in
set_option maxHeartbeats 4000000 in
theorem cX5_firstFrom_ok {l : Launch} {g : gG} {p0 : Nat} {a1 : Int32} {μ : gM} {r : Int32} (h0 : gk p0 = (0, 5)) (hf : fX5_firstFrom p0 a1 μ = some r) : gMet l g yX5_firstFrom cX5_firstFrom 3 (some .int) 1 21 [.ref (g.1 + p0), .int a1] μ (some (.int r)) μ := by
  refine gMet_of (gIni [.ref (g.1 + p0), .int a1] ++ List.replicate 1 none) (by decide) (gIni_ok _ _) (Nat.le_of_ble_eq_true rfl) (fun K h => ?_)
  show K 0 [some (.ref (g.1 + p0)), some (.int a1), none] [] μ
  unfold fX5_firstFrom at hf
  refine zr_iconst (pc := 0) (v := (0 : Int32)) h dX5_firstFrom_0 (by decide) ?_
  refine zr_istore_n (pc := 1) h dX5_firstFrom_1 rfl (by decide) rfl ?_
  exact zr_weak h [true, true, true] (fX5_firstFrom_l2_ok h h0 100000 _ _ hf)

