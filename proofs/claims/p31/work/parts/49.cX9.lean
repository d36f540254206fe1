set_option maxRecDepth 100000 in
set_option maxHeartbeats 4000000 in
theorem cX9_copyNumbers_ok {l : Launch} {g : gG} {p0 : Nat} {p1 : Nat} {μ : gM} {ν : gM} (h0 : gk p0 = (0, 9)) (h1 : gk p1 = (0, 9)) (hf : fX9_copyNumbers p0 p1 μ = some ν) : gMet l g yX9_copyNumbers cX9_copyNumbers 2 none 0 0 [.ref (g.1 + p0), .ref (g.1 + p1)] μ none ν := by
  refine gMet_of (gIni [.ref (g.1 + p0), .ref (g.1 + p1)] ++ List.replicate 0 none) (by decide) (gIni_ok _ _) (Nat.le_of_ble_eq_true rfl) (fun K h => ?_)
  show K 0 [some (.ref (g.1 + p0)), some (.ref (g.1 + p1))] [] μ
  unfold fX9_copyNumbers at hf
  refine zr_aload_n (pc := 0) h dX9_copyNumbers_0 rfl rfl ?_
  refine zr_aload_n (pc := 1) h dX9_copyNumbers_1 rfl rfl ?_
  refine zf_X9_70 (pc := 2) h h1 dX9_copyNumbers_2 ?_
  refine zp_X9_70 (pc := 5) h h0 dX9_copyNumbers_5 ?_
  refine zr_mu h (fun μ1 eμ1 => ?_)
  have hf := zLt_s eμ1 hf
  refine zr_aload_n (pc := 8) h dX9_copyNumbers_8 rfl rfl ?_
  refine zr_aload_n (pc := 9) h dX9_copyNumbers_9 rfl rfl ?_
  refine zf_X9_74 (pc := 10) h h1 dX9_copyNumbers_10 ?_
  refine zp_X9_74 (pc := 13) h h0 dX9_copyNumbers_13 ?_
  refine zr_mu h (fun μ2 eμ2 => ?_)
  have hf := zLt_s eμ2 hf
  refine zr_aload_n (pc := 16) h dX9_copyNumbers_16 rfl rfl ?_
  refine zr_aload_n (pc := 17) h dX9_copyNumbers_17 rfl rfl ?_
  refine zf_X9_77 (pc := 18) h h1 dX9_copyNumbers_18 ?_
  refine zp_X9_77 (pc := 21) h h0 dX9_copyNumbers_21 ?_
  refine zr_mu h (fun μ3 eμ3 => ?_)
  have hf := zLt_s eμ3 hf
  refine zr_aload_n (pc := 24) h dX9_copyNumbers_24 rfl rfl ?_
  refine zr_aload_n (pc := 25) h dX9_copyNumbers_25 rfl rfl ?_
  refine zf_X9_80 (pc := 26) h h1 dX9_copyNumbers_26 ?_
  refine zp_X9_80 (pc := 29) h h0 dX9_copyNumbers_29 ?_
  refine zr_mu h (fun μ4 eμ4 => ?_)
  have hf := zLt_s eμ4 hf
  refine zr_aload_n (pc := 32) h dX9_copyNumbers_32 rfl rfl ?_
  refine zr_aload_n (pc := 33) h dX9_copyNumbers_33 rfl rfl ?_
  refine zf_X9_83 (pc := 34) h h1 dX9_copyNumbers_34 ?_
  refine zp_X9_83 (pc := 37) h h0 dX9_copyNumbers_37 ?_
  refine zr_mu h (fun μ5 eμ5 => ?_)
  have hf := zLt_s eμ5 hf
  refine zr_aload_n (pc := 40) h dX9_copyNumbers_40 rfl rfl ?_
  refine zr_aload_n (pc := 41) h dX9_copyNumbers_41 rfl rfl ?_
  refine zf_X9_86 (pc := 42) h h1 dX9_copyNumbers_42 ?_
  refine zp_X9_86 (pc := 45) h h0 dX9_copyNumbers_45 ?_
  refine zr_mu h (fun μ6 eμ6 => ?_)
  have hf := zLt_s eμ6 hf
  refine zr_aload_n (pc := 48) h dX9_copyNumbers_48 rfl rfl ?_
  refine zr_aload_n (pc := 49) h dX9_copyNumbers_49 rfl rfl ?_
  refine zf_X9_89 (pc := 50) h h1 dX9_copyNumbers_50 ?_
  refine zp_X9_89 (pc := 53) h h0 dX9_copyNumbers_53 ?_
  refine zr_mu h (fun μ7 eμ7 => ?_)
  have hf := zLt_s eμ7 hf
  refine zr_aload_n (pc := 56) h dX9_copyNumbers_56 rfl rfl ?_
  refine zr_aload_n (pc := 57) h dX9_copyNumbers_57 rfl rfl ?_
  refine zf_X9_92 (pc := 58) h h1 dX9_copyNumbers_58 ?_
  refine zp_X9_92 (pc := 61) h h0 dX9_copyNumbers_61 ?_
  refine zr_mu h (fun μ8 eμ8 => ?_)
  have hf := zLt_s eμ8 hf
  refine zr_aload_n (pc := 64) h dX9_copyNumbers_64 rfl rfl ?_
  refine zr_aload_n (pc := 65) h dX9_copyNumbers_65 rfl rfl ?_
  refine zf_X9_95 (pc := 66) h h1 dX9_copyNumbers_66 ?_
  refine zp_X9_95 (pc := 69) h h0 dX9_copyNumbers_69 ?_
  refine zr_mu h (fun μ9 eμ9 => ?_)
  have hf := zLt_s eμ9 hf
  exact zr_vret (pc := 72) h dX9_copyNumbers_72 rfl (zRv hf)

set_option maxRecDepth 100000 in
set_option maxHeartbeats 4000000 in
theorem cX9_copyFrom_ok {l : Launch} {g : gG} {p0 : Nat} {p1 : Nat} {μ : gM} {ν : gM} (h0 : gk p0 = (0, 9)) (h1 : gk p1 = (0, 9)) (hf : fX9_copyFrom p0 p1 μ = some ν) : gMet l g yX9_copyFrom cX9_copyFrom 2 none 2 81 [.ref (g.1 + p0), .ref (g.1 + p1)] μ none ν := by
  refine gMet_of (gIni [.ref (g.1 + p0), .ref (g.1 + p1)] ++ List.replicate 0 none) (by decide) (gIni_ok _ _) (Nat.le_of_ble_eq_true rfl) (fun K h => ?_)
  show K 0 [some (.ref (g.1 + p0)), some (.ref (g.1 + p1))] [] μ
  unfold fX9_copyFrom at hf
  refine zr_aload_n (pc := 0) h dX9_copyFrom_0 rfl rfl ?_
  refine zr_aload_n (pc := 1) h dX9_copyFrom_1 rfl rfl ?_
  obtain ⟨μ1, eμ1, hf⟩ := zBd_s hf
  refine zm_X9_53 (pc := 2) h h0 ⟨by decide, by decide⟩ (cX9_copyNumbers_ok h0 h1 eμ1) rfl (Nat.le_of_ble_eq_true rfl) dX9_copyFrom_2 rfl ?_
  refine zr_aload_n (pc := 5) h dX9_copyFrom_5 rfl rfl ?_
  refine zf_X9_12 (pc := 6) h h0 dX9_copyFrom_6 ?_
  refine zr_aload_n (pc := 9) h dX9_copyFrom_9 rfl rfl ?_
  refine zf_X9_12 (pc := 10) h h1 dX9_copyFrom_10 ?_
  obtain ⟨μ2, eμ2, hf⟩ := zBd_s hf
  refine zm_X9_57 (pc := 13) h (gd_X9_9 h0) ⟨by decide, by decide⟩ (cX5_copyFrom_ok (gd_X9_9 h0) (gd_X9_9 h1) eμ2) rfl (Nat.le_of_ble_eq_true rfl) dX9_copyFrom_13 rfl ?_
  refine zr_aload_n (pc := 16) h dX9_copyFrom_16 rfl rfl ?_
  refine zf_X9_21 (pc := 17) h h0 dX9_copyFrom_17 ?_
  refine zr_aload_n (pc := 20) h dX9_copyFrom_20 rfl rfl ?_
  refine zf_X9_21 (pc := 21) h h1 dX9_copyFrom_21 ?_
  obtain ⟨μ3, eμ3, hf⟩ := zBd_s hf
  refine zm_X9_61 (pc := 24) h (gd_X9_10 h0) ⟨by decide, by decide⟩ (cX0_copyFrom_ok (gd_X9_10 h0) (gd_X9_10 h1) eμ3) rfl (Nat.le_of_ble_eq_true rfl) dX9_copyFrom_24 rfl ?_
  refine zr_aload_n (pc := 27) h dX9_copyFrom_27 rfl rfl ?_
  refine zf_X9_25 (pc := 28) h h1 dX9_copyFrom_28 ?_
  refine zr_iconst (pc := 31) (v := (0 : Int32)) h dX9_copyFrom_31 (by decide) ?_
  refine zr_aload_n (pc := 32) h dX9_copyFrom_32 rfl rfl ?_
  refine zf_X9_25 (pc := 33) h h0 dX9_copyFrom_33 ?_
  refine zr_iconst (pc := 36) (v := (0 : Int32)) h dX9_copyFrom_36 (by decide) ?_
  refine zr_iconst (pc := 37) (v := (5 : Int32)) h dX9_copyFrom_37 (by decide) ?_
  refine zr_copy (pc := 38) h (gd_X9_11 h1) (gd_X9_11 h0) (by decide) (by decide) (by decide) (by decide) (by decide) zw_941 zw_825 zw_824 zw_197 (by decide) (by decide) dX9_copyFrom_38 ?_
  refine zr_mu h (fun μ4 eμ4 => ?_)
  have hf := zLt_s eμ4 hf
  refine zr_aload_n (pc := 41) h dX9_copyFrom_41 rfl rfl ?_
  refine zf_X9_29 (pc := 42) h h1 dX9_copyFrom_42 ?_
  refine zr_iconst (pc := 45) (v := (0 : Int32)) h dX9_copyFrom_45 (by decide) ?_
  refine zr_aload_n (pc := 46) h dX9_copyFrom_46 rfl rfl ?_
  refine zf_X9_29 (pc := 47) h h0 dX9_copyFrom_47 ?_
  refine zr_iconst (pc := 50) (v := (0 : Int32)) h dX9_copyFrom_50 (by decide) ?_
  refine zr_iconst (pc := 51) (v := (5 : Int32)) h dX9_copyFrom_51 (by decide) ?_
  refine zr_copy (pc := 52) h (gd_X9_12 h1) (gd_X9_12 h0) (by decide) (by decide) (by decide) (by decide) (by decide) zw_941 zw_825 zw_824 zw_197 (by decide) (by decide) dX9_copyFrom_52 ?_
  refine zr_mu h (fun μ5 eμ5 => ?_)
  have hf := zLt_s eμ5 hf
  refine zr_aload_n (pc := 55) h dX9_copyFrom_55 rfl rfl ?_
  refine zf_X9_32 (pc := 56) h h1 dX9_copyFrom_56 ?_
  refine zr_iconst (pc := 59) (v := (0 : Int32)) h dX9_copyFrom_59 (by decide) ?_
  refine zr_aload_n (pc := 60) h dX9_copyFrom_60 rfl rfl ?_
  refine zf_X9_32 (pc := 61) h h0 dX9_copyFrom_61 ?_
  refine zr_iconst (pc := 64) (v := (0 : Int32)) h dX9_copyFrom_64 (by decide) ?_
  refine zr_iconst (pc := 65) (v := (5 : Int32)) h dX9_copyFrom_65 (by decide) ?_
  refine zr_copy (pc := 66) h (gd_X9_13 h1) (gd_X9_13 h0) (by decide) (by decide) (by decide) (by decide) (by decide) zw_941 zw_825 zw_824 zw_197 (by decide) (by decide) dX9_copyFrom_66 ?_
  refine zr_mu h (fun μ6 eμ6 => ?_)
  have hf := zLt_s eμ6 hf
  refine zr_aload_n (pc := 69) h dX9_copyFrom_69 rfl rfl ?_
  refine zf_X9_35 (pc := 70) h h1 dX9_copyFrom_70 ?_
  refine zr_iconst (pc := 73) (v := (0 : Int32)) h dX9_copyFrom_73 (by decide) ?_
  refine zr_aload_n (pc := 74) h dX9_copyFrom_74 rfl rfl ?_
  refine zf_X9_35 (pc := 75) h h0 dX9_copyFrom_75 ?_
  refine zr_iconst (pc := 78) (v := (0 : Int32)) h dX9_copyFrom_78 (by decide) ?_
  refine zr_iconst (pc := 79) (v := (5 : Int32)) h dX9_copyFrom_79 (by decide) ?_
  refine zr_copy (pc := 80) h (gd_X9_14 h1) (gd_X9_14 h0) (by decide) (by decide) (by decide) (by decide) (by decide) zw_941 zw_825 zw_824 zw_197 (by decide) (by decide) dX9_copyFrom_80 ?_
  refine zr_mu h (fun μ7 eμ7 => ?_)
  have hf := zLt_s eμ7 hf
  refine zr_aload_n (pc := 83) h dX9_copyFrom_83 rfl rfl ?_
  refine zf_X9_38 (pc := 84) h h1 dX9_copyFrom_84 ?_
  refine zr_iconst (pc := 87) (v := (0 : Int32)) h dX9_copyFrom_87 (by decide) ?_
  refine zr_aload_n (pc := 88) h dX9_copyFrom_88 rfl rfl ?_
  refine zf_X9_38 (pc := 89) h h0 dX9_copyFrom_89 ?_
  refine zr_iconst (pc := 92) (v := (0 : Int32)) h dX9_copyFrom_92 (by decide) ?_
  refine zr_bipush (pc := 93) (v := (30 : Int32)) h dX9_copyFrom_93 (by decide) ?_
  refine zr_copy (pc := 95) h (gd_X9_15 h1) (gd_X9_15 h0) (by decide) (by decide) (by decide) (by decide) (by decide) zw_941 zw_825 zw_824 zw_197 (by decide) (by decide) dX9_copyFrom_95 ?_
  refine zr_mu h (fun μ8 eμ8 => ?_)
  have hf := zLt_s eμ8 hf
  refine zr_aload_n (pc := 98) h dX9_copyFrom_98 rfl rfl ?_
  refine zf_X9_41 (pc := 99) h h1 dX9_copyFrom_99 ?_
  refine zr_iconst (pc := 102) (v := (0 : Int32)) h dX9_copyFrom_102 (by decide) ?_
  refine zr_aload_n (pc := 103) h dX9_copyFrom_103 rfl rfl ?_
  refine zf_X9_41 (pc := 104) h h0 dX9_copyFrom_104 ?_
  refine zr_iconst (pc := 107) (v := (0 : Int32)) h dX9_copyFrom_107 (by decide) ?_
  refine zr_bipush (pc := 108) (v := (30 : Int32)) h dX9_copyFrom_108 (by decide) ?_
  refine zr_copy (pc := 110) h (gd_X9_16 h1) (gd_X9_16 h0) (by decide) (by decide) (by decide) (by decide) (by decide) zw_941 zw_825 zw_824 zw_197 (by decide) (by decide) dX9_copyFrom_110 ?_
  refine zr_mu h (fun μ9 eμ9 => ?_)
  have hf := zLt_s eμ9 hf
  refine zr_aload_n (pc := 113) h dX9_copyFrom_113 rfl rfl ?_
  refine zf_X9_44 (pc := 114) h h1 dX9_copyFrom_114 ?_
  refine zr_iconst (pc := 117) (v := (0 : Int32)) h dX9_copyFrom_117 (by decide) ?_
  refine zr_aload_n (pc := 118) h dX9_copyFrom_118 rfl rfl ?_
  refine zf_X9_44 (pc := 119) h h0 dX9_copyFrom_119 ?_
  refine zr_iconst (pc := 122) (v := (0 : Int32)) h dX9_copyFrom_122 (by decide) ?_
  refine zr_bipush (pc := 123) (v := (30 : Int32)) h dX9_copyFrom_123 (by decide) ?_
  refine zr_copy (pc := 125) h (gd_X9_17 h1) (gd_X9_17 h0) (by decide) (by decide) (by decide) (by decide) (by decide) zw_941 zw_825 zw_824 zw_197 (by decide) (by decide) dX9_copyFrom_125 ?_
  refine zr_mu h (fun μ10 eμ10 => ?_)
  have hf := zLt_s eμ10 hf
  refine zr_aload_n (pc := 128) h dX9_copyFrom_128 rfl rfl ?_
  refine zf_X9_47 (pc := 129) h h1 dX9_copyFrom_129 ?_
  refine zr_iconst (pc := 132) (v := (0 : Int32)) h dX9_copyFrom_132 (by decide) ?_
  refine zr_aload_n (pc := 133) h dX9_copyFrom_133 rfl rfl ?_
  refine zf_X9_47 (pc := 134) h h0 dX9_copyFrom_134 ?_
  refine zr_iconst (pc := 137) (v := (0 : Int32)) h dX9_copyFrom_137 (by decide) ?_
  refine zr_bipush (pc := 138) (v := (30 : Int32)) h dX9_copyFrom_138 (by decide) ?_
  refine zr_copy (pc := 140) h (gd_X9_18 h1) (gd_X9_18 h0) (by decide) (by decide) (by decide) (by decide) (by decide) zw_941 zw_825 zw_824 zw_197 (by decide) (by decide) dX9_copyFrom_140 ?_
  refine zr_mu h (fun μ11 eμ11 => ?_)
  have hf := zLt_s eμ11 hf
  refine zr_aload_n (pc := 143) h dX9_copyFrom_143 rfl rfl ?_
  refine zf_X9_50 (pc := 144) h h1 dX9_copyFrom_144 ?_
  refine zr_iconst (pc := 147) (v := (0 : Int32)) h dX9_copyFrom_147 (by decide) ?_
  refine zr_aload_n (pc := 148) h dX9_copyFrom_148 rfl rfl ?_
  refine zf_X9_50 (pc := 149) h h0 dX9_copyFrom_149 ?_
  refine zr_iconst (pc := 152) (v := (0 : Int32)) h dX9_copyFrom_152 (by decide) ?_
  refine zr_bipush (pc := 153) (v := (30 : Int32)) h dX9_copyFrom_153 (by decide) ?_
  refine zr_copy (pc := 155) h (gd_X9_19 h1) (gd_X9_19 h0) (by decide) (by decide) (by decide) (by decide) (by decide) zw_941 zw_825 zw_824 zw_197 (by decide) (by decide) dX9_copyFrom_155 ?_
  refine zr_mu h (fun μ12 eμ12 => ?_)
  have hf := zLt_s eμ12 hf
  exact zr_vret (pc := 158) h dX9_copyFrom_158 rfl (zRv hf)

set_option maxRecDepth 100000 in
set_option maxHeartbeats 4000000 in
theorem cX9_isDouble_ok {l : Launch} {g : gG} {p0 : Nat} {a1 : Int32} {μ : gM} {r : Int32} (h0 : gk p0 = (0, 9)) (hf : fX9_isDouble p0 a1 μ = some r) : gMet l g yX9_isDouble cX9_isDouble 3 (some .boolean) 1 20 [.ref (g.1 + p0), .int a1] μ (some (.int r)) μ := by
  refine gMet_of (gIni [.ref (g.1 + p0), .int a1] ++ List.replicate 1 none) (by decide) (gIni_ok _ _) (Nat.le_of_ble_eq_true rfl) (fun K h => ?_)
  show K 0 [some (.ref (g.1 + p0)), some (.int a1), none] [] μ
  unfold fX9_isDouble at hf
  refine zr_aload_n (pc := 0) h dX9_isDouble_0 rfl rfl ?_
  refine zf_X9_25 (pc := 1) h h0 dX9_isDouble_1 ?_
  refine zr_iload_n (pc := 4) h dX9_isDouble_4 rfl rfl ?_
  obtain ⟨q1, hf⟩ := zCk_s hf
  refine zr_iald (pc := 5) h (gd_X9_11 h0) q1 rfl dX9_isDouble_5 ?_
  refine zr_topi h (fun x2 ex2 => ?_)
  have hf := zLt_s ex2 hf
  refine zr_istore_n (pc := 6) h dX9_isDouble_6 rfl (by decide) rfl ?_
  refine zr_iload_n (pc := 7) h dX9_isDouble_7 rfl rfl ?_
  refine zr_aload_n (pc := 8) h dX9_isDouble_8 rfl rfl ?_
  refine zf_X9_80 (pc := 9) h h0 dX9_isDouble_9 ?_
  refine zr_iand (pc := 12) h dX9_isDouble_12 ?_
  obtain ⟨x3, ex3, hf⟩ := zBd_s hf
  refine zm_X9_110 (pc := 13) h ⟨by decide, by decide⟩ (cJ6_bitCount_0f7a4_ok ex3) rfl (Nat.le_of_ble_eq_true rfl) dX9_isDouble_13 rfl ?_
  refine zr_iconst (pc := 16) (v := (1 : Int32)) h dX9_isDouble_16 (by decide) ?_
  have hf := zIf_s hf
  refine zr_icmp_gt (pc := 17) (tgt := 35) h dX9_isDouble_17 rfl (fun b6 => ?_) (fun b6 => ?_)
  · have hf := hf.1 b6
    refine zr_iconst (pc := 35) (v := (1 : Int32)) h dX9_isDouble_35 (by decide) ?_
    refine zr_goto (pc := 36) (tgt := 40) h dX9_isDouble_36 rfl ?_
    exact zr_zret (pc := 40) h rfl dX9_isDouble_40 (zRi hf) rfl
  · have hf := hf.2 b6
    refine zr_iload_n (pc := 20) h dX9_isDouble_20 rfl rfl ?_
    refine zr_aload_n (pc := 21) h dX9_isDouble_21 rfl rfl ?_
    refine zf_X9_80 (pc := 22) h h0 dX9_isDouble_22 ?_
    refine zr_iconst (pc := 25) (v := (-1 : Int32)) h dX9_isDouble_25 (by decide) ?_
    refine zr_ixor (pc := 26) h dX9_isDouble_26 ?_
    refine zr_iand (pc := 27) h dX9_isDouble_27 ?_
    obtain ⟨x4, ex4, hf⟩ := zBd_s hf
    refine zm_X9_110 (pc := 28) h ⟨by decide, by decide⟩ (cJ6_bitCount_0f7a4_ok ex4) rfl (Nat.le_of_ble_eq_true rfl) dX9_isDouble_28 rfl ?_
    refine zr_iconst (pc := 31) (v := (1 : Int32)) h dX9_isDouble_31 (by decide) ?_
    have hf := zIf_s hf
    refine zr_icmp_le (pc := 32) (tgt := 39) h dX9_isDouble_32 rfl (fun b5 => ?_) (fun b5 => ?_)
    · have hf := hf.1 b5
      refine zr_iconst (pc := 39) (v := (0 : Int32)) h dX9_isDouble_39 (by decide) ?_
      exact zr_zret (pc := 40) h rfl dX9_isDouble_40 (zRi hf) rfl
    · have hf := hf.2 b5
      refine zr_iconst (pc := 35) (v := (1 : Int32)) h dX9_isDouble_35 (by decide) ?_
      refine zr_goto (pc := 36) (tgt := 40) h dX9_isDouble_36 rfl ?_
      exact zr_zret (pc := 40) h rfl dX9_isDouble_40 (zRi hf) rfl

set_option maxRecDepth 100000 in
set_option maxHeartbeats 4000000 in
theorem cX9_isHeld_ok {l : Launch} {g : gG} {p0 : Nat} {a1 : Int32} {a2 : Int32} {μ : gM} {r : Int32} (h0 : gk p0 = (0, 9)) (hf : fX9_isHeld p0 a1 a2 μ = some r) : gMet l g yX9_isHeld cX9_isHeld 3 (some .boolean) 0 0 [.ref (g.1 + p0), .int a1, .int a2] μ (some (.int r)) μ := by
  refine gMet_of (gIni [.ref (g.1 + p0), .int a1, .int a2] ++ List.replicate 0 none) (by decide) (gIni_ok _ _) (Nat.le_of_ble_eq_true rfl) (fun K h => ?_)
  show K 0 [some (.ref (g.1 + p0)), some (.int a1), some (.int a2)] [] μ
  unfold fX9_isHeld at hf
  refine zr_aload_n (pc := 0) h dX9_isHeld_0 rfl rfl ?_
  refine zf_X9_25 (pc := 1) h h0 dX9_isHeld_1 ?_
  refine zr_iload_n (pc := 4) h dX9_isHeld_4 rfl rfl ?_
  obtain ⟨q1, hf⟩ := zCk_s hf
  refine zr_iald (pc := 5) h (gd_X9_11 h0) q1 rfl dX9_isHeld_5 ?_
  refine zr_iload_n (pc := 6) h dX9_isHeld_6 rfl rfl ?_
  refine zr_ishr (pc := 7) h dX9_isHeld_7 ?_
  refine zr_iconst (pc := 8) (v := (1 : Int32)) h dX9_isHeld_8 (by decide) ?_
  refine zr_iand (pc := 9) h dX9_isHeld_9 ?_
  refine zr_iconst (pc := 10) (v := (1 : Int32)) h dX9_isHeld_10 (by decide) ?_
  have hf := zIf_s hf
  refine zr_icmp_ne (pc := 11) (tgt := 18) h dX9_isHeld_11 rfl (fun b2 => ?_) (fun b2 => ?_)
  · have hf := hf.2 b2
    refine zr_iconst (pc := 18) (v := (0 : Int32)) h dX9_isHeld_18 (by decide) ?_
    exact zr_zret (pc := 19) h rfl dX9_isHeld_19 (zRi hf) rfl
  · have hf := hf.1 b2
    refine zr_iconst (pc := 14) (v := (1 : Int32)) h dX9_isHeld_14 (by decide) ?_
    refine zr_goto (pc := 15) (tgt := 19) h dX9_isHeld_15 rfl ?_
    exact zr_zret (pc := 19) h rfl dX9_isHeld_19 (zRi hf) rfl

set_option maxRecDepth 100000 in
set_option maxHeartbeats 4000000 in
theorem cX9_beside_ok {l : Launch} {g : gG} {p0 : Nat} {a1 : Int32} {μ : gM} {r : Int32} (h0 : gk p0 = (0, 9)) (hf : fX9_beside p0 a1 μ = some r) : gMet l g yX9_beside cX9_beside 2 (some .int) 0 0 [.ref (g.1 + p0), .int a1] μ (some (.int r)) μ := by
  refine gMet_of (gIni [.ref (g.1 + p0), .int a1] ++ List.replicate 0 none) (by decide) (gIni_ok _ _) (Nat.le_of_ble_eq_true rfl) (fun K h => ?_)
  show K 0 [some (.ref (g.1 + p0)), some (.int a1)] [] μ
  unfold fX9_beside at hf
  refine zr_aload_n (pc := 0) h dX9_beside_0 rfl rfl ?_
  refine zf_X9_80 (pc := 1) h h0 dX9_beside_1 ?_
  refine zr_iload_n (pc := 4) h dX9_beside_4 rfl rfl ?_
  refine zr_ishr (pc := 5) h dX9_beside_5 ?_
  refine zr_iconst (pc := 6) (v := (1 : Int32)) h dX9_beside_6 (by decide) ?_
  refine zr_iand (pc := 7) h dX9_beside_7 ?_
  refine zr_iconst (pc := 8) (v := (1 : Int32)) h dX9_beside_8 (by decide) ?_
  have hf := zIf_s hf
  refine zr_icmp_ne (pc := 9) (tgt := 19) h dX9_beside_9 rfl (fun b1 => ?_) (fun b1 => ?_)
  · have hf := hf.2 b1
    refine zr_aload_n (pc := 19) h dX9_beside_19 rfl rfl ?_
    refine zf_X9_80 (pc := 20) h h0 dX9_beside_20 ?_
    refine zr_iconst (pc := 23) (v := (-1 : Int32)) h dX9_beside_23 (by decide) ?_
    refine zr_ixor (pc := 24) h dX9_beside_24 ?_
    exact zr_iret (pc := 25) h dX9_beside_25 (zRi hf) rfl
  · have hf := hf.1 b1
    refine zr_aload_n (pc := 12) h dX9_beside_12 rfl rfl ?_
    refine zf_X9_80 (pc := 13) h h0 dX9_beside_13 ?_
    refine zr_goto (pc := 16) (tgt := 25) h dX9_beside_16 rfl ?_
    exact zr_iret (pc := 25) h dX9_beside_25 (zRi hf) rfl

set_option maxRecDepth 100000 in
set_option maxHeartbeats 4000000 in
theorem fX9_strongest_n27_ok {l : Launch} {g : gG} {p0 : Nat} {k5 : Int32 → Int32 → Int32 → Int32 → gM → Option Int32} {r : Int32} {μe : gM} {K : gKt} (h : gR l g cX9_strongest RX9 6 (some .int) (gRm 0 0) (some (.int r)) μe K) (h0 : gk p0 = (0, 9)) (hk5 : ∀ (y1 : Int32) (y2 : Int32) (y3 : Int32) (y4 : Int32), k5 y1 y2 y3 y4 μe = some r → K 5 [some (.ref (g.1 + p0)), some (.int y1), some (.int y2), some (.int y3), some (.int y4), none] [] μe) {y1 : Int32} {y2 : Int32} {y3 : Int32} {y4 : Int32} {z0 : Int32} (hf : fX9_strongest_n27 p0 k5 y1 y2 y3 y4 z0 μe = some r) : K 27 [some (.ref (g.1 + p0)), some (.int y1), some (.int y2), some (.int y3), some (.int y4), none] [.int z0] μe := by
  unfold fX9_strongest_n27 at hf
  refine zr_istore (pc := 27) h dX9_strongest_27 (by decide) rfl ?_
  refine zr_iload (pc := 29) h dX9_strongest_29 rfl ?_
  have hf := zIf_s hf
  refine zr_if_eq (pc := 31) (tgt := 68) h dX9_strongest_31 rfl (fun b9 => ?_) (fun b9 => ?_)
  · have hf := hf.1 b9
    refine zr_iincx (pc := 68) h dX9_strongest_68 rfl (by decide) rfl (c := (1 : Int32)) (by decide) (fun x1 ex1 => ?_)
    have hf := zLt_s ex1 hf
    refine zr_goto (pc := 71) (tgt := 5) h dX9_strongest_71 rfl ?_
    exact zr_weak h [true, true, true, true, true, false] (hk5 _ _ _ _ hf)
  · have hf := hf.2 b9
    refine zr_iload_n (pc := 34) h dX9_strongest_34 rfl rfl ?_
    refine zr_iconst (pc := 35) (v := (-1 : Int32)) h dX9_strongest_35 (by decide) ?_
    have hf := zIf_s hf
    refine zr_icmp_eq (pc := 36) (tgt := 65) h dX9_strongest_36 rfl (fun b8 => ?_) (fun b8 => ?_)
    · have hf := hf.1 b8
      refine zr_iload (pc := 65) h dX9_strongest_65 rfl ?_
      refine zr_istore_n (pc := 67) h dX9_strongest_67 rfl (by decide) rfl ?_
      refine zr_iincx (pc := 68) h dX9_strongest_68 rfl (by decide) rfl (c := (1 : Int32)) (by decide) (fun x2 ex2 => ?_)
      have hf := zLt_s ex2 hf
      refine zr_goto (pc := 71) (tgt := 5) h dX9_strongest_71 rfl ?_
      exact zr_weak h [true, true, true, true, true, false] (hk5 _ _ _ _ hf)
    · have hf := hf.2 b8
      refine zr_aload_n (pc := 39) h dX9_strongest_39 rfl rfl ?_
      refine zf_X9_41 (pc := 40) h h0 dX9_strongest_40 ?_
      refine zr_iload_n (pc := 43) h dX9_strongest_43 rfl rfl ?_
      refine zr_bipush (pc := 44) (v := (6 : Int32)) h dX9_strongest_44 (by decide) ?_
      refine zr_imul (pc := 46) h dX9_strongest_46 ?_
      refine zr_iload (pc := 47) h dX9_strongest_47 rfl ?_
      refine zr_iadd (pc := 49) h dX9_strongest_49 ?_
      obtain ⟨q3, hf⟩ := zCk_s hf
      refine zr_iald (pc := 50) h (gd_X9_16 h0) q3 rfl dX9_strongest_50 ?_
      refine zr_aload_n (pc := 51) h dX9_strongest_51 rfl rfl ?_
      refine zf_X9_41 (pc := 52) h h0 dX9_strongest_52 ?_
      refine zr_iload_n (pc := 55) h dX9_strongest_55 rfl rfl ?_
      refine zr_bipush (pc := 56) (v := (6 : Int32)) h dX9_strongest_56 (by decide) ?_
      refine zr_imul (pc := 58) h dX9_strongest_58 ?_
      refine zr_iload_n (pc := 59) h dX9_strongest_59 rfl rfl ?_
      refine zr_iadd (pc := 60) h dX9_strongest_60 ?_
      obtain ⟨q4, hf⟩ := zCk_s hf
      refine zr_iald (pc := 61) h (gd_X9_16 h0) q4 rfl dX9_strongest_61 ?_
      have hf := zIf_s hf
      refine zr_icmp_lt (pc := 62) (tgt := 68) h dX9_strongest_62 rfl (fun b7 => ?_) (fun b7 => ?_)
      · have hf := hf.1 b7
        refine zr_iincx (pc := 68) h dX9_strongest_68 rfl (by decide) rfl (c := (1 : Int32)) (by decide) (fun x5 ex5 => ?_)
        have hf := zLt_s ex5 hf
        refine zr_goto (pc := 71) (tgt := 5) h dX9_strongest_71 rfl ?_
        exact zr_weak h [true, true, true, true, true, false] (hk5 _ _ _ _ hf)
      · have hf := hf.2 b7
        refine zr_iload (pc := 65) h dX9_strongest_65 rfl ?_
        refine zr_istore_n (pc := 67) h dX9_strongest_67 rfl (by decide) rfl ?_
        refine zr_iincx (pc := 68) h dX9_strongest_68 rfl (by decide) rfl (c := (1 : Int32)) (by decide) (fun x6 ex6 => ?_)
        have hf := zLt_s ex6 hf
        refine zr_goto (pc := 71) (tgt := 5) h dX9_strongest_71 rfl ?_
        exact zr_weak h [true, true, true, true, true, false] (hk5 _ _ _ _ hf)

set_option maxRecDepth 100000 in
set_option maxHeartbeats 4000000 in
theorem fX9_strongest_l5_ok {l : Launch} {g : gG} {p0 : Nat} {r : Int32} {μe : gM} {K : gKt} (h : gR l g cX9_strongest RX9 6 (some .int) (gRm 0 0) (some (.int r)) μe K) (h0 : gk p0 = (0, 9)) : ∀ (n : Nat) (y1 : Int32) (y2 : Int32) (y3 : Int32) (y4 : Int32), fX9_strongest_l5 p0 n y1 y2 y3 y4 μe = some r → K 5 [some (.ref (g.1 + p0)), some (.int y1), some (.int y2), some (.int y3), some (.int y4), none] [] μe := by
  intro n
  induction n with
  | zero =>
    intro y1 y2 y3 y4 hf
    cases (show (none : Option Int32) = some _ from hf)
  | succ n ih =>
    intro y1 y2 y3 y4 hf
    unfold fX9_strongest_l5 at hf
    refine zr_iload (pc := 5) h dX9_strongest_5 rfl ?_
    refine zr_bipush (pc := 7) (v := (6 : Int32)) h dX9_strongest_7 (by decide) ?_
    have hf := zIf_s hf
    refine zr_icmp_ge (pc := 9) (tgt := 74) h dX9_strongest_9 rfl (fun b11 => ?_) (fun b11 => ?_)
    · have hf := hf.1 b11
      refine zr_iload_n (pc := 74) h dX9_strongest_74 rfl rfl ?_
      exact zr_iret (pc := 75) h dX9_strongest_75 (zRi hf) rfl
    · have hf := hf.2 b11
      refine zr_iload_n (pc := 12) h dX9_strongest_12 rfl rfl ?_
      refine zr_iload (pc := 13) h dX9_strongest_13 rfl ?_
      refine zr_ishr (pc := 15) h dX9_strongest_15 ?_
      refine zr_iconst (pc := 16) (v := (1 : Int32)) h dX9_strongest_16 (by decide) ?_
      refine zr_iand (pc := 17) h dX9_strongest_17 ?_
      refine zr_iconst (pc := 18) (v := (1 : Int32)) h dX9_strongest_18 (by decide) ?_
      have hf := zIf_s hf
      refine zr_icmp_ne (pc := 19) (tgt := 26) h dX9_strongest_19 rfl (fun b10 => ?_) (fun b10 => ?_)
      · have hf := hf.2 b10
        refine zr_iconst (pc := 26) (v := (0 : Int32)) h dX9_strongest_26 (by decide) ?_
        exact zr_weak h [true, true, true, true, true, false] (fX9_strongest_n27_ok h h0 ih hf)
      · have hf := hf.1 b10
        refine zr_iconst (pc := 22) (v := (1 : Int32)) h dX9_strongest_22 (by decide) ?_
        refine zr_goto (pc := 23) (tgt := 27) h dX9_strongest_23 rfl ?_
        exact zr_weak h [true, true, true, true, true, false] (fX9_strongest_n27_ok h h0 ih hf)

set_option maxRecDepth 100000 in
set_option maxHeartbeats 4000000 in
theorem cX9_strongest_ok {l : Launch} {g : gG} {p0 : Nat} {a1 : Int32} {a2 : Int32} {μ : gM} {r : Int32} (h0 : gk p0 = (0, 9)) (hf : fX9_strongest p0 a1 a2 μ = some r) : gMet l g yX9_strongest cX9_strongest 6 (some .int) 0 0 [.ref (g.1 + p0), .int a1, .int a2] μ (some (.int r)) μ := by
  refine gMet_of (gIni [.ref (g.1 + p0), .int a1, .int a2] ++ List.replicate 3 none) (by decide) (gIni_ok _ _) (Nat.le_of_ble_eq_true rfl) (fun K h => ?_)
  show K 0 [some (.ref (g.1 + p0)), some (.int a1), some (.int a2), none, none, none] [] μ
  unfold fX9_strongest at hf
  refine zr_iconst (pc := 0) (v := (-1 : Int32)) h dX9_strongest_0 (by decide) ?_
  refine zr_istore_n (pc := 1) h dX9_strongest_1 rfl (by decide) rfl ?_
  refine zr_iconst (pc := 2) (v := (0 : Int32)) h dX9_strongest_2 (by decide) ?_
  refine zr_istore (pc := 3) h dX9_strongest_3 (by decide) rfl ?_
  exact zr_weak h [true, true, true, true, true, false] (fX9_strongest_l5_ok h h0 100000 _ _ _ _ hf)

set_option maxRecDepth 100000 in
set_option maxHeartbeats 4000000 in
theorem cX9_holderBeside_ok {l : Launch} {g : gG} {p0 : Nat} {a1 : Int32} {a2 : Int32} {μ : gM} {r : Int32} (h0 : gk p0 = (0, 9)) (hf : fX9_holderBeside p0 a1 a2 μ = some r) : gMet l g yX9_holderBeside cX9_holderBeside 3 (some .int) 1 25 [.ref (g.1 + p0), .int a1, .int a2] μ (some (.int r)) μ := by
  refine gMet_of (gIni [.ref (g.1 + p0), .int a1, .int a2] ++ List.replicate 0 none) (by decide) (gIni_ok _ _) (Nat.le_of_ble_eq_true rfl) (fun K h => ?_)
  show K 0 [some (.ref (g.1 + p0)), some (.int a1), some (.int a2)] [] μ
  unfold fX9_holderBeside at hf
  refine zr_aload_n (pc := 0) h dX9_holderBeside_0 rfl rfl ?_
  refine zr_iload_n (pc := 1) h dX9_holderBeside_1 rfl rfl ?_
  refine zr_aload_n (pc := 2) h dX9_holderBeside_2 rfl rfl ?_
  refine zf_X9_25 (pc := 3) h h0 dX9_holderBeside_3 ?_
  refine zr_iload_n (pc := 6) h dX9_holderBeside_6 rfl rfl ?_
  obtain ⟨q1, hf⟩ := zCk_s hf
  refine zr_iald (pc := 7) h (gd_X9_11 h0) q1 rfl dX9_holderBeside_7 ?_
  refine zr_aload_n (pc := 8) h dX9_holderBeside_8 rfl rfl ?_
  refine zr_iload_n (pc := 9) h dX9_holderBeside_9 rfl rfl ?_
  obtain ⟨x2, ex2, hf⟩ := zBd_s hf
  refine zm_X9_116 (pc := 10) h h0 ⟨by decide, by decide⟩ (cX9_beside_ok h0 ex2) rfl (Nat.le_of_ble_eq_true rfl) dX9_holderBeside_10 rfl ?_
  refine zr_iand (pc := 13) h dX9_holderBeside_13 ?_
  obtain ⟨x3, ex3, hf⟩ := zBd_s hf
  refine zm_X9_119 (pc := 14) h h0 ⟨by decide, by decide⟩ (cX9_strongest_ok h0 ex3) rfl (Nat.le_of_ble_eq_true rfl) dX9_holderBeside_14 rfl ?_
  exact zr_iret (pc := 17) h dX9_holderBeside_17 (zRi hf) rfl

set_option maxRecDepth 100000 in
set_option maxHeartbeats 4000000 in
theorem fX9_clear_l104_ok {l : Launch} {g : gG} {p0 : Nat} {p1 : Nat} {ν : gM} {K : gKt} (h : gR l g cX9_clear RX9 3 none (gRm 0 0) none ν K) (h0 : gk p0 = (0, 9)) (h1 : gk p1 = (1, 30)) : ∀ (n : Nat) (y2 : Int32) (μ : gM), fX9_clear_l104 p0 p1 n y2 μ = some ν → K 104 [some (.ref (g.1 + p0)), some (.ref (g.1 + p1)), some (.int y2)] [] μ := by
  intro n
  induction n with
  | zero =>
    intro y2 μ hf
    cases (show (none : Option gM) = some _ from hf)
  | succ n ih =>
    intro y2 μ hf
    unfold fX9_clear_l104 at hf
    refine zr_iload_n (pc := 104) h dX9_clear_104 rfl rfl ?_
    refine zr_bipush (pc := 105) (v := (30 : Int32)) h dX9_clear_105 (by decide) ?_
    have hf := zIf_s hf
    refine zr_icmp_ge (pc := 107) (tgt := 145) h dX9_clear_107 rfl (fun b21 => ?_) (fun b21 => ?_)
    · have hf := hf.1 b21
      exact zr_vret (pc := 145) h dX9_clear_145 rfl (zRv hf)
    · have hf := hf.2 b21
      refine zr_iload_n (pc := 110) h dX9_clear_110 rfl rfl ?_
      refine zr_aload_n (pc := 111) h dX9_clear_111 rfl rfl ?_
      refine zr_alen (pc := 112) (v := (30 : Int32)) h h1 (by decide) dX9_clear_112 ?_
      have hf := zIf_s hf
      refine zr_icmp_ge (pc := 113) (tgt := 145) h dX9_clear_113 rfl (fun b20 => ?_) (fun b20 => ?_)
      · have hf := hf.1 b20
        exact zr_vret (pc := 145) h dX9_clear_145 rfl (zRv hf)
      · have hf := hf.2 b20
        refine zr_aload_n (pc := 116) h dX9_clear_116 rfl rfl ?_
        refine zf_X9_38 (pc := 117) h h0 dX9_clear_117 ?_
        refine zr_iload_n (pc := 120) h dX9_clear_120 rfl rfl ?_
        refine zr_aload_n (pc := 121) h dX9_clear_121 rfl rfl ?_
        refine zr_iload_n (pc := 122) h dX9_clear_122 rfl rfl ?_
        obtain ⟨q12, hf⟩ := zCk_s hf
        refine zr_iald (pc := 123) h h1 q12 rfl dX9_clear_123 ?_
        obtain ⟨q13, hf⟩ := zCk_s hf
        refine zr_iast (pc := 124) h (gd_X9_15 h0) q13 rfl dX9_clear_124 ?_
        refine zr_mu h (fun μ14 eμ14 => ?_)
        have hf := zLt_s eμ14 hf
        refine zr_aload_n (pc := 125) h dX9_clear_125 rfl rfl ?_
        refine zf_X9_47 (pc := 126) h h0 dX9_clear_126 ?_
        refine zr_iload_n (pc := 129) h dX9_clear_129 rfl rfl ?_
        refine zr_iconst (pc := 130) (v := (0 : Int32)) h dX9_clear_130 (by decide) ?_
        obtain ⟨q15, hf⟩ := zCk_s hf
        refine zr_iast (pc := 131) h (gd_X9_18 h0) q15 rfl dX9_clear_131 ?_
        refine zr_mu h (fun μ16 eμ16 => ?_)
        have hf := zLt_s eμ16 hf
        refine zr_aload_n (pc := 132) h dX9_clear_132 rfl rfl ?_
        refine zf_X9_50 (pc := 133) h h0 dX9_clear_133 ?_
        refine zr_iload_n (pc := 136) h dX9_clear_136 rfl rfl ?_
        refine zr_iconst (pc := 137) (v := (-1 : Int32)) h dX9_clear_137 (by decide) ?_
        obtain ⟨q17, hf⟩ := zCk_s hf
        refine zr_iast (pc := 138) h (gd_X9_19 h0) q17 rfl dX9_clear_138 ?_
        refine zr_mu h (fun μ18 eμ18 => ?_)
        have hf := zLt_s eμ18 hf
        refine zr_iincx (pc := 139) h dX9_clear_139 rfl (by decide) rfl (c := (1 : Int32)) (by decide) (fun x19 ex19 => ?_)
        have hf := zLt_s ex19 hf
        refine zr_goto (pc := 142) (tgt := 104) h dX9_clear_142 rfl ?_
        exact zr_weak h [true, true, true] (ih _ _ hf)

set_option maxRecDepth 100000 in
set_option maxHeartbeats 4000000 in
theorem fX9_clear_l63_ok {l : Launch} {g : gG} {p0 : Nat} {p1 : Nat} {ν : gM} {K : gKt} (h : gR l g cX9_clear RX9 3 none (gRm 0 0) none ν K) (h0 : gk p0 = (0, 9)) (h1 : gk p1 = (1, 30)) : ∀ (n : Nat) (y2 : Int32) (μ : gM), fX9_clear_l63 p0 p1 n y2 μ = some ν → K 63 [some (.ref (g.1 + p0)), some (.ref (g.1 + p1)), some (.int y2)] [] μ := by
  intro n
  induction n with
  | zero =>
    intro y2 μ hf
    cases (show (none : Option gM) = some _ from hf)
  | succ n ih =>
    intro y2 μ hf
    unfold fX9_clear_l63 at hf
    refine zr_iload_n (pc := 63) h dX9_clear_63 rfl rfl ?_
    refine zr_iconst (pc := 64) (v := (5 : Int32)) h dX9_clear_64 (by decide) ?_
    have hf := zIf_s hf
    refine zr_icmp_ge (pc := 65) (tgt := 102) h dX9_clear_65 rfl (fun b31 => ?_) (fun b31 => ?_)
    · have hf := hf.1 b31
      refine zr_iconst (pc := 102) (v := (0 : Int32)) h dX9_clear_102 (by decide) ?_
      refine zr_istore_n (pc := 103) h dX9_clear_103 rfl (by decide) rfl ?_
      exact zr_weak h [true, true, true] (fX9_clear_l104_ok h h0 h1 100000 _ _ hf)
    · have hf := hf.2 b31
      refine zr_aload_n (pc := 68) h dX9_clear_68 rfl rfl ?_
      refine zf_X9_25 (pc := 69) h h0 dX9_clear_69 ?_
      refine zr_iload_n (pc := 72) h dX9_clear_72 rfl rfl ?_
      refine zr_iconst (pc := 73) (v := (0 : Int32)) h dX9_clear_73 (by decide) ?_
      obtain ⟨q22, hf⟩ := zCk_s hf
      refine zr_iast (pc := 74) h (gd_X9_11 h0) q22 rfl dX9_clear_74 ?_
      refine zr_mu h (fun μ23 eμ23 => ?_)
      have hf := zLt_s eμ23 hf
      refine zr_aload_n (pc := 75) h dX9_clear_75 rfl rfl ?_
      refine zf_X9_29 (pc := 76) h h0 dX9_clear_76 ?_
      refine zr_iload_n (pc := 79) h dX9_clear_79 rfl rfl ?_
      refine zr_iconst (pc := 80) (v := (0 : Int32)) h dX9_clear_80 (by decide) ?_
      obtain ⟨q24, hf⟩ := zCk_s hf
      refine zr_iast (pc := 81) h (gd_X9_12 h0) q24 rfl dX9_clear_81 ?_
      refine zr_mu h (fun μ25 eμ25 => ?_)
      have hf := zLt_s eμ25 hf
      refine zr_aload_n (pc := 82) h dX9_clear_82 rfl rfl ?_
      refine zf_X9_32 (pc := 83) h h0 dX9_clear_83 ?_
      refine zr_iload_n (pc := 86) h dX9_clear_86 rfl rfl ?_
      refine zr_iconst (pc := 87) (v := (0 : Int32)) h dX9_clear_87 (by decide) ?_
      obtain ⟨q26, hf⟩ := zCk_s hf
      refine zr_iast (pc := 88) h (gd_X9_13 h0) q26 rfl dX9_clear_88 ?_
      refine zr_mu h (fun μ27 eμ27 => ?_)
      have hf := zLt_s eμ27 hf
      refine zr_aload_n (pc := 89) h dX9_clear_89 rfl rfl ?_
      refine zf_X9_35 (pc := 90) h h0 dX9_clear_90 ?_
      refine zr_iload_n (pc := 93) h dX9_clear_93 rfl rfl ?_
      refine zr_iconst (pc := 94) (v := (0 : Int32)) h dX9_clear_94 (by decide) ?_
      obtain ⟨q28, hf⟩ := zCk_s hf
      refine zr_iast (pc := 95) h (gd_X9_14 h0) q28 rfl dX9_clear_95 ?_
      refine zr_mu h (fun μ29 eμ29 => ?_)
      have hf := zLt_s eμ29 hf
      refine zr_iincx (pc := 96) h dX9_clear_96 rfl (by decide) rfl (c := (1 : Int32)) (by decide) (fun x30 ex30 => ?_)
      have hf := zLt_s ex30 hf
      refine zr_goto (pc := 99) (tgt := 63) h dX9_clear_99 rfl ?_
      exact zr_weak h [true, true, true] (ih _ _ hf)

set_option maxRecDepth 100000 in
set_option maxHeartbeats 4000000 in
theorem cX9_clear_ok {l : Launch} {g : gG} {p0 : Nat} {p1 : Nat} {μ : gM} {ν : gM} (h0 : gk p0 = (0, 9)) (h1 : gk p1 = (1, 30)) (hf : fX9_clear p0 p1 μ = some ν) : gMet l g yX9_clear cX9_clear 3 none 0 0 [.ref (g.1 + p0), .ref (g.1 + p1)] μ none ν := by
  refine gMet_of (gIni [.ref (g.1 + p0), .ref (g.1 + p1)] ++ List.replicate 1 none) (by decide) (gIni_ok _ _) (Nat.le_of_ble_eq_true rfl) (fun K h => ?_)
  show K 0 [some (.ref (g.1 + p0)), some (.ref (g.1 + p1)), none] [] μ
  unfold fX9_clear at hf
  refine zr_aload_n (pc := 0) h dX9_clear_0 rfl rfl ?_
  refine zr_iconst (pc := 1) (v := (0 : Int32)) h dX9_clear_1 (by decide) ?_
  refine zp_X9_70 (pc := 2) h h0 dX9_clear_2 ?_
  refine zr_mu h (fun μ1 eμ1 => ?_)
  have hf := zLt_s eμ1 hf
  refine zr_aload_n (pc := 5) h dX9_clear_5 rfl rfl ?_
  refine zr_iconst (pc := 6) (v := (0 : Int32)) h dX9_clear_6 (by decide) ?_
  refine zp_X9_74 (pc := 7) h h0 dX9_clear_7 ?_
  refine zr_mu h (fun μ2 eμ2 => ?_)
  have hf := zLt_s eμ2 hf
  refine zr_aload_n (pc := 10) h dX9_clear_10 rfl rfl ?_
  refine zr_iconst (pc := 11) (v := (0 : Int32)) h dX9_clear_11 (by decide) ?_
  refine zp_X9_77 (pc := 12) h h0 dX9_clear_12 ?_
  refine zr_mu h (fun μ3 eμ3 => ?_)
  have hf := zLt_s eμ3 hf
  refine zr_aload_n (pc := 15) h dX9_clear_15 rfl rfl ?_
  refine zr_iconst (pc := 16) (v := (0 : Int32)) h dX9_clear_16 (by decide) ?_
  refine zp_X9_80 (pc := 17) h h0 dX9_clear_17 ?_
  refine zr_mu h (fun μ4 eμ4 => ?_)
  have hf := zLt_s eμ4 hf
  refine zr_aload_n (pc := 20) h dX9_clear_20 rfl rfl ?_
  refine zr_iconst (pc := 21) (v := (0 : Int32)) h dX9_clear_21 (by decide) ?_
  refine zp_X9_83 (pc := 22) h h0 dX9_clear_22 ?_
  refine zr_mu h (fun μ5 eμ5 => ?_)
  have hf := zLt_s eμ5 hf
  refine zr_aload_n (pc := 25) h dX9_clear_25 rfl rfl ?_
  refine zr_iconst (pc := 26) (v := (1 : Int32)) h dX9_clear_26 (by decide) ?_
  refine zp_X9_86 (pc := 27) h h0 dX9_clear_27 ?_
  refine zr_mu h (fun μ6 eμ6 => ?_)
  have hf := zLt_s eμ6 hf
  refine zr_aload_n (pc := 30) h dX9_clear_30 rfl rfl ?_
  refine zr_iconst (pc := 31) (v := (0 : Int32)) h dX9_clear_31 (by decide) ?_
  refine zp_X9_89 (pc := 32) h h0 dX9_clear_32 ?_
  refine zr_mu h (fun μ7 eμ7 => ?_)
  have hf := zLt_s eμ7 hf
  refine zr_aload_n (pc := 35) h dX9_clear_35 rfl rfl ?_
  refine zr_iconst (pc := 36) (v := (0 : Int32)) h dX9_clear_36 (by decide) ?_
  refine zp_X9_92 (pc := 37) h h0 dX9_clear_37 ?_
  refine zr_mu h (fun μ8 eμ8 => ?_)
  have hf := zLt_s eμ8 hf
  refine zr_aload_n (pc := 40) h dX9_clear_40 rfl rfl ?_
  refine zr_iconst (pc := 41) (v := (0 : Int32)) h dX9_clear_41 (by decide) ?_
  refine zp_X9_95 (pc := 42) h h0 dX9_clear_42 ?_
  refine zr_mu h (fun μ9 eμ9 => ?_)
  have hf := zLt_s eμ9 hf
  refine zr_aload_n (pc := 45) h dX9_clear_45 rfl rfl ?_
  refine zf_X9_12 (pc := 46) h h0 dX9_clear_46 ?_
  refine zr_iconst (pc := 49) (v := (0 : Int32)) h dX9_clear_49 (by decide) ?_
  refine zp_X9_98 (pc := 50) h (gd_X9_9 h0) dX9_clear_50 ?_
  refine zr_mu h (fun μ10 eμ10 => ?_)
  have hf := zLt_s eμ10 hf
  refine zr_aload_n (pc := 53) h dX9_clear_53 rfl rfl ?_
  refine zf_X9_21 (pc := 54) h h0 dX9_clear_54 ?_
  refine zr_iconst (pc := 57) (v := (0 : Int32)) h dX9_clear_57 (by decide) ?_
  refine zp_X9_101 (pc := 58) h (gd_X9_10 h0) dX9_clear_58 ?_
  refine zr_mu h (fun μ11 eμ11 => ?_)
  have hf := zLt_s eμ11 hf
  refine zr_iconst (pc := 61) (v := (0 : Int32)) h dX9_clear_61 (by decide) ?_
  refine zr_istore_n (pc := 62) h dX9_clear_62 rfl (by decide) rfl ?_
  exact zr_weak h [true, true, true] (fX9_clear_l63_ok h h0 h1 100000 _ _ hf)

set_option maxRecDepth 100000 in
set_option maxHeartbeats 4000000 in
theorem cX9_isUp_ok {l : Launch} {g : gG} {p0 : Nat} {a1 : Int32} {μ : gM} {r : Int32} (h0 : gk p0 = (0, 9)) (hf : fX9_isUp p0 a1 μ = some r) : gMet l g yX9_isUp cX9_isUp 2 (some .boolean) 0 0 [.ref (g.1 + p0), .int a1] μ (some (.int r)) μ := by
  refine gMet_of (gIni [.ref (g.1 + p0), .int a1] ++ List.replicate 0 none) (by decide) (gIni_ok _ _) (Nat.le_of_ble_eq_true rfl) (fun K h => ?_)
  show K 0 [some (.ref (g.1 + p0)), some (.int a1)] [] μ
  unfold fX9_isUp at hf
  refine zr_aload_n (pc := 0) h dX9_isUp_0 rfl rfl ?_
  refine zf_X9_74 (pc := 1) h h0 dX9_isUp_1 ?_
  refine zr_iload_n (pc := 4) h dX9_isUp_4 rfl rfl ?_
  refine zr_ishr (pc := 5) h dX9_isUp_5 ?_
  refine zr_iconst (pc := 6) (v := (1 : Int32)) h dX9_isUp_6 (by decide) ?_
  refine zr_iand (pc := 7) h dX9_isUp_7 ?_
  refine zr_iconst (pc := 8) (v := (1 : Int32)) h dX9_isUp_8 (by decide) ?_
  have hf := zIf_s hf
  refine zr_icmp_ne (pc := 9) (tgt := 16) h dX9_isUp_9 rfl (fun b1 => ?_) (fun b1 => ?_)
  · have hf := hf.2 b1
    refine zr_iconst (pc := 16) (v := (0 : Int32)) h dX9_isUp_16 (by decide) ?_
    exact zr_zret (pc := 17) h rfl dX9_isUp_17 (zRi hf) rfl
  · have hf := hf.1 b1
    refine zr_iconst (pc := 12) (v := (1 : Int32)) h dX9_isUp_12 (by decide) ?_
    refine zr_goto (pc := 13) (tgt := 17) h dX9_isUp_13 rfl ?_
    exact zr_zret (pc := 17) h rfl dX9_isUp_17 (zRi hf) rfl

set_option maxRecDepth 100000 in
set_option maxHeartbeats 4000000 in
theorem cX9_isCut_ok {l : Launch} {g : gG} {p0 : Nat} {a1 : Int32} {μ : gM} {r : Int32} (h0 : gk p0 = (0, 9)) (hf : fX9_isCut p0 a1 μ = some r) : gMet l g yX9_isCut cX9_isCut 2 (some .boolean) 0 0 [.ref (g.1 + p0), .int a1] μ (some (.int r)) μ := by
  refine gMet_of (gIni [.ref (g.1 + p0), .int a1] ++ List.replicate 0 none) (by decide) (gIni_ok _ _) (Nat.le_of_ble_eq_true rfl) (fun K h => ?_)
  show K 0 [some (.ref (g.1 + p0)), some (.int a1)] [] μ
  unfold fX9_isCut at hf
  refine zr_aload_n (pc := 0) h dX9_isCut_0 rfl rfl ?_
  refine zf_X9_77 (pc := 1) h h0 dX9_isCut_1 ?_
  refine zr_iload_n (pc := 4) h dX9_isCut_4 rfl rfl ?_
  refine zr_ishr (pc := 5) h dX9_isCut_5 ?_
  refine zr_iconst (pc := 6) (v := (1 : Int32)) h dX9_isCut_6 (by decide) ?_
  refine zr_iand (pc := 7) h dX9_isCut_7 ?_
  refine zr_iconst (pc := 8) (v := (1 : Int32)) h dX9_isCut_8 (by decide) ?_
  have hf := zIf_s hf
  refine zr_icmp_ne (pc := 9) (tgt := 16) h dX9_isCut_9 rfl (fun b1 => ?_) (fun b1 => ?_)
  · have hf := hf.2 b1
    refine zr_iconst (pc := 16) (v := (0 : Int32)) h dX9_isCut_16 (by decide) ?_
    exact zr_zret (pc := 17) h rfl dX9_isCut_17 (zRi hf) rfl
  · have hf := hf.1 b1
    refine zr_iconst (pc := 12) (v := (1 : Int32)) h dX9_isCut_12 (by decide) ?_
    refine zr_goto (pc := 13) (tgt := 17) h dX9_isCut_13 rfl ?_
    exact zr_zret (pc := 17) h rfl dX9_isCut_17 (zRi hf) rfl

set_option maxRecDepth 100000 in
set_option maxHeartbeats 4000000 in
theorem cX9_howIs_ok {l : Launch} {g : gG} {p0 : Nat} {a1 : Int32} {a2 : Int32} {μ : gM} {r : Int32} (h0 : gk p0 = (0, 9)) (hf : fX9_howIs p0 a1 a2 μ = some r) : gMet l g yX9_howIs cX9_howIs 3 (some .int) 1 22 [.ref (g.1 + p0), .int a1, .int a2] μ (some (.int r)) μ := by
  refine gMet_of (gIni [.ref (g.1 + p0), .int a1, .int a2] ++ List.replicate 0 none) (by decide) (gIni_ok _ _) (Nat.le_of_ble_eq_true rfl) (fun K h => ?_)
  show K 0 [some (.ref (g.1 + p0)), some (.int a1), some (.int a2)] [] μ
  unfold fX9_howIs at hf
  refine zr_aload_n (pc := 0) h dX9_howIs_0 rfl rfl ?_
  refine zr_iload_n (pc := 1) h dX9_howIs_1 rfl rfl ?_
  obtain ⟨x1, ex1, hf⟩ := zBd_s hf
  refine zm_X9_102 (pc := 2) h h0 ⟨by decide, by decide⟩ (cX9_isUp_ok h0 ex1) rfl (Nat.le_of_ble_eq_true rfl) dX9_howIs_2 rfl ?_
  have hf := zIf_s hf
  refine zr_if_ne (pc := 5) (tgt := 10) h dX9_howIs_5 rfl (fun b4 => ?_) (fun b4 => ?_)
  · have hf := hf.2 b4
    refine zr_aload_n (pc := 10) h dX9_howIs_10 rfl rfl ?_
    refine zr_iload_n (pc := 11) h dX9_howIs_11 rfl rfl ?_
    refine zr_iload_n (pc := 12) h dX9_howIs_12 rfl rfl ?_
    obtain ⟨x2, ex2, hf⟩ := zBd_s hf
    refine zm_X9_106 (pc := 13) h h0 ⟨by decide, by decide⟩ (cX9_isHeld_ok h0 ex2) rfl (Nat.le_of_ble_eq_true rfl) dX9_howIs_13 rfl ?_
    have hf := zIf_s hf
    refine zr_if_eq (pc := 16) (tgt := 23) h dX9_howIs_16 rfl (fun b3 => ?_) (fun b3 => ?_)
    · have hf := hf.1 b3
      refine zr_iconst (pc := 23) (v := (1 : Int32)) h dX9_howIs_23 (by decide) ?_
      exact zr_iret (pc := 24) h dX9_howIs_24 (zRi hf) rfl
    · have hf := hf.2 b3
      refine zr_iconst (pc := 19) (v := (2 : Int32)) h dX9_howIs_19 (by decide) ?_
      refine zr_goto (pc := 20) (tgt := 24) h dX9_howIs_20 rfl ?_
      exact zr_iret (pc := 24) h dX9_howIs_24 (zRi hf) rfl
  · have hf := hf.1 b4
    refine zr_iconst (pc := 8) (v := (0 : Int32)) h dX9_howIs_8 (by decide) ?_
    exact zr_iret (pc := 9) h dX9_howIs_9 (zRi hf) rfl

