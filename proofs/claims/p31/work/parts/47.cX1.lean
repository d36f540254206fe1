set_option maxRecDepth 100000 in
set_option maxHeartbeats 4000000 in
theorem fX1_clear_l22_ok {l : Launch} {g : gG} {p0 : Nat} {ν : gM} {K : gKt} (h : gR l g cX1_clear RX1 2 none (gRm 0 0) none ν K) (h0 : gk p0 = (0, 1)) : ∀ (n : Nat) (y1 : Int32) (μ : gM), fX1_clear_l22 p0 n y1 μ = some ν → K 22 [some (.ref (g.1 + p0)), some (.int y1)] [] μ := by
  intro n
  induction n with
  | zero =>
    intro y1 μ hf
    cases (show (none : Option gM) = some _ from hf)
  | succ n ih =>
    intro y1 μ hf
    unfold fX1_clear_l22 at hf
    refine zr_iload_n (pc := 22) h dX1_clear_22 rfl rfl ?_
    refine zr_iconst (pc := 23) (v := (5 : Int32)) h dX1_clear_23 (by decide) ?_
    have hf := zIf_s hf
    refine zr_icmp_ge (pc := 24) (tgt := 40) h dX1_clear_24 rfl (fun b5 => ?_) (fun b5 => ?_)
    · have hf := hf.1 b5
      refine zr_aload_n (pc := 40) h dX1_clear_40 rfl rfl ?_
      refine zr_iconst (pc := 41) (v := (0 : Int32)) h dX1_clear_41 (by decide) ?_
      refine zp_X1_48 (pc := 42) h h0 dX1_clear_42 ?_
      refine zr_mu h (fun μ1 eμ1 => ?_)
      have hf := zLt_s eμ1 hf
      exact zr_vret (pc := 45) h dX1_clear_45 rfl (zRv hf)
    · have hf := hf.2 b5
      refine zr_aload_n (pc := 27) h dX1_clear_27 rfl rfl ?_
      refine zf_X1_30 (pc := 28) h h0 dX1_clear_28 ?_
      refine zr_iload_n (pc := 31) h dX1_clear_31 rfl rfl ?_
      refine zr_iconst (pc := 32) (v := (0 : Int32)) h dX1_clear_32 (by decide) ?_
      obtain ⟨q2, hf⟩ := zCk_s hf
      refine zr_iast (pc := 33) h (gd_X1_7 h0) q2 rfl dX1_clear_33 ?_
      refine zr_mu h (fun μ3 eμ3 => ?_)
      have hf := zLt_s eμ3 hf
      refine zr_iincx (pc := 34) h dX1_clear_34 rfl (by decide) rfl (c := (1 : Int32)) (by decide) (fun x4 ex4 => ?_)
      have hf := zLt_s ex4 hf
      refine zr_goto (pc := 37) (tgt := 22) h dX1_clear_37 rfl ?_
      exact zr_weak h [true, true] (ih _ _ hf)

set_option maxRecDepth 100000 in
set_option maxHeartbeats 4000000 in
theorem fX1_clear_l2_ok {l : Launch} {g : gG} {p0 : Nat} {ν : gM} {K : gKt} (h : gR l g cX1_clear RX1 2 none (gRm 0 0) none ν K) (h0 : gk p0 = (0, 1)) : ∀ (n : Nat) (y1 : Int32) (μ : gM), fX1_clear_l2 p0 n y1 μ = some ν → K 2 [some (.ref (g.1 + p0)), some (.int y1)] [] μ := by
  intro n
  induction n with
  | zero =>
    intro y1 μ hf
    cases (show (none : Option gM) = some _ from hf)
  | succ n ih =>
    intro y1 μ hf
    unfold fX1_clear_l2 at hf
    refine zr_iload_n (pc := 2) h dX1_clear_2 rfl rfl ?_
    refine zr_iconst (pc := 3) (v := (3 : Int32)) h dX1_clear_3 (by decide) ?_
    have hf := zIf_s hf
    refine zr_icmp_ge (pc := 4) (tgt := 20) h dX1_clear_4 rfl (fun b9 => ?_) (fun b9 => ?_)
    · have hf := hf.1 b9
      refine zr_iconst (pc := 20) (v := (0 : Int32)) h dX1_clear_20 (by decide) ?_
      refine zr_istore_n (pc := 21) h dX1_clear_21 rfl (by decide) rfl ?_
      exact zr_weak h [true, true] (fX1_clear_l22_ok h h0 100000 _ _ hf)
    · have hf := hf.2 b9
      refine zr_aload_n (pc := 7) h dX1_clear_7 rfl rfl ?_
      refine zf_X1_9 (pc := 8) h h0 dX1_clear_8 ?_
      refine zr_iload_n (pc := 11) h dX1_clear_11 rfl rfl ?_
      refine zr_iconst (pc := 12) (v := (0 : Int32)) h dX1_clear_12 (by decide) ?_
      obtain ⟨q6, hf⟩ := zCk_s hf
      refine zr_iast (pc := 13) h (gd_X1_1 h0) q6 rfl dX1_clear_13 ?_
      refine zr_mu h (fun μ7 eμ7 => ?_)
      have hf := zLt_s eμ7 hf
      refine zr_iincx (pc := 14) h dX1_clear_14 rfl (by decide) rfl (c := (1 : Int32)) (by decide) (fun x8 ex8 => ?_)
      have hf := zLt_s ex8 hf
      refine zr_goto (pc := 17) (tgt := 2) h dX1_clear_17 rfl ?_
      exact zr_weak h [true, true] (ih _ _ hf)

set_option maxRecDepth 100000 in
set_option maxHeartbeats 4000000 in
theorem cX1_clear_ok {l : Launch} {g : gG} {p0 : Nat} {μ : gM} {ν : gM} (h0 : gk p0 = (0, 1)) (hf : fX1_clear p0 μ = some ν) : gMet l g yX1_clear cX1_clear 2 none 0 0 [.ref (g.1 + p0)] μ none ν := by
  refine gMet_of (gIni [.ref (g.1 + p0)] ++ List.replicate 1 none) (by decide) (gIni_ok _ _) (Nat.le_of_ble_eq_true rfl) (fun K h => ?_)
  show K 0 [some (.ref (g.1 + p0)), none] [] μ
  unfold fX1_clear at hf
  refine zr_iconst (pc := 0) (v := (0 : Int32)) h dX1_clear_0 (by decide) ?_
  refine zr_istore_n (pc := 1) h dX1_clear_1 rfl (by decide) rfl ?_
  exact zr_weak h [true, true] (fX1_clear_l2_ok h h0 100000 _ _ hf)

set_option maxRecDepth 100000 in
set_option maxHeartbeats 4000000 in
theorem cX1_copyFrom_ok {l : Launch} {g : gG} {p0 : Nat} {p1 : Nat} {μ : gM} {ν : gM} (h0 : gk p0 = (0, 1)) (h1 : gk p1 = (0, 1)) (hf : fX1_copyFrom p0 p1 μ = some ν) : gMet l g yX1_copyFrom cX1_copyFrom 2 none 1 60 [.ref (g.1 + p0), .ref (g.1 + p1)] μ none ν := by
  refine gMet_of (gIni [.ref (g.1 + p0), .ref (g.1 + p1)] ++ List.replicate 0 none) (by decide) (gIni_ok _ _) (Nat.le_of_ble_eq_true rfl) (fun K h => ?_)
  show K 0 [some (.ref (g.1 + p0)), some (.ref (g.1 + p1))] [] μ
  unfold fX1_copyFrom at hf
  refine zr_aload_n (pc := 0) h dX1_copyFrom_0 rfl rfl ?_
  refine zf_X1_9 (pc := 1) h h1 dX1_copyFrom_1 ?_
  refine zr_iconst (pc := 4) (v := (0 : Int32)) h dX1_copyFrom_4 (by decide) ?_
  refine zr_aload_n (pc := 5) h dX1_copyFrom_5 rfl rfl ?_
  refine zf_X1_9 (pc := 6) h h0 dX1_copyFrom_6 ?_
  refine zr_iconst (pc := 9) (v := (0 : Int32)) h dX1_copyFrom_9 (by decide) ?_
  refine zr_iconst (pc := 10) (v := (3 : Int32)) h dX1_copyFrom_10 (by decide) ?_
  refine zr_copy (pc := 11) h (gd_X1_1 h1) (gd_X1_1 h0) (by decide) (by decide) (by decide) (by decide) (by decide) zw_823 zw_825 zw_824 zw_197 (by decide) (by decide) dX1_copyFrom_11 ?_
  refine zr_mu h (fun μ1 eμ1 => ?_)
  have hf := zLt_s eμ1 hf
  refine zr_aload_n (pc := 14) h dX1_copyFrom_14 rfl rfl ?_
  refine zf_X1_15 (pc := 15) h h1 dX1_copyFrom_15 ?_
  refine zr_iconst (pc := 18) (v := (0 : Int32)) h dX1_copyFrom_18 (by decide) ?_
  refine zr_aload_n (pc := 19) h dX1_copyFrom_19 rfl rfl ?_
  refine zf_X1_15 (pc := 20) h h0 dX1_copyFrom_20 ?_
  refine zr_iconst (pc := 23) (v := (0 : Int32)) h dX1_copyFrom_23 (by decide) ?_
  refine zr_bipush (pc := 24) (v := (24 : Int32)) h dX1_copyFrom_24 (by decide) ?_
  refine zr_copy (pc := 26) h (gd_X1_2 h1) (gd_X1_2 h0) (by decide) (by decide) (by decide) (by decide) (by decide) zw_823 zw_825 zw_824 zw_197 (by decide) (by decide) dX1_copyFrom_26 ?_
  refine zr_mu h (fun μ2 eμ2 => ?_)
  have hf := zLt_s eμ2 hf
  refine zr_aload_n (pc := 29) h dX1_copyFrom_29 rfl rfl ?_
  refine zf_X1_18 (pc := 30) h h1 dX1_copyFrom_30 ?_
  refine zr_iconst (pc := 33) (v := (0 : Int32)) h dX1_copyFrom_33 (by decide) ?_
  refine zr_aload_n (pc := 34) h dX1_copyFrom_34 rfl rfl ?_
  refine zf_X1_18 (pc := 35) h h0 dX1_copyFrom_35 ?_
  refine zr_iconst (pc := 38) (v := (0 : Int32)) h dX1_copyFrom_38 (by decide) ?_
  refine zr_iconst (pc := 39) (v := (5 : Int32)) h dX1_copyFrom_39 (by decide) ?_
  refine zr_copy (pc := 40) h (gd_X1_3 h1) (gd_X1_3 h0) (by decide) (by decide) (by decide) (by decide) (by decide) zw_823 zw_825 zw_824 zw_197 (by decide) (by decide) dX1_copyFrom_40 ?_
  refine zr_mu h (fun μ3 eμ3 => ?_)
  have hf := zLt_s eμ3 hf
  refine zr_aload_n (pc := 43) h dX1_copyFrom_43 rfl rfl ?_
  refine zf_X1_21 (pc := 44) h h1 dX1_copyFrom_44 ?_
  refine zr_iconst (pc := 47) (v := (0 : Int32)) h dX1_copyFrom_47 (by decide) ?_
  refine zr_aload_n (pc := 48) h dX1_copyFrom_48 rfl rfl ?_
  refine zf_X1_21 (pc := 49) h h0 dX1_copyFrom_49 ?_
  refine zr_iconst (pc := 52) (v := (0 : Int32)) h dX1_copyFrom_52 (by decide) ?_
  refine zr_iconst (pc := 53) (v := (5 : Int32)) h dX1_copyFrom_53 (by decide) ?_
  refine zr_copy (pc := 54) h (gd_X1_4 h1) (gd_X1_4 h0) (by decide) (by decide) (by decide) (by decide) (by decide) zw_823 zw_825 zw_824 zw_197 (by decide) (by decide) dX1_copyFrom_54 ?_
  refine zr_mu h (fun μ4 eμ4 => ?_)
  have hf := zLt_s eμ4 hf
  refine zr_aload_n (pc := 57) h dX1_copyFrom_57 rfl rfl ?_
  refine zf_X1_24 (pc := 58) h h1 dX1_copyFrom_58 ?_
  refine zr_iconst (pc := 61) (v := (0 : Int32)) h dX1_copyFrom_61 (by decide) ?_
  refine zr_aload_n (pc := 62) h dX1_copyFrom_62 rfl rfl ?_
  refine zf_X1_24 (pc := 63) h h0 dX1_copyFrom_63 ?_
  refine zr_iconst (pc := 66) (v := (0 : Int32)) h dX1_copyFrom_66 (by decide) ?_
  refine zr_iconst (pc := 67) (v := (5 : Int32)) h dX1_copyFrom_67 (by decide) ?_
  refine zr_copy (pc := 68) h (gd_X1_5 h1) (gd_X1_5 h0) (by decide) (by decide) (by decide) (by decide) (by decide) zw_823 zw_825 zw_824 zw_197 (by decide) (by decide) dX1_copyFrom_68 ?_
  refine zr_mu h (fun μ5 eμ5 => ?_)
  have hf := zLt_s eμ5 hf
  refine zr_aload_n (pc := 71) h dX1_copyFrom_71 rfl rfl ?_
  refine zf_X1_27 (pc := 72) h h1 dX1_copyFrom_72 ?_
  refine zr_iconst (pc := 75) (v := (0 : Int32)) h dX1_copyFrom_75 (by decide) ?_
  refine zr_aload_n (pc := 76) h dX1_copyFrom_76 rfl rfl ?_
  refine zf_X1_27 (pc := 77) h h0 dX1_copyFrom_77 ?_
  refine zr_iconst (pc := 80) (v := (0 : Int32)) h dX1_copyFrom_80 (by decide) ?_
  refine zr_iconst (pc := 81) (v := (5 : Int32)) h dX1_copyFrom_81 (by decide) ?_
  refine zr_copy (pc := 82) h (gd_X1_6 h1) (gd_X1_6 h0) (by decide) (by decide) (by decide) (by decide) (by decide) zw_823 zw_825 zw_824 zw_197 (by decide) (by decide) dX1_copyFrom_82 ?_
  refine zr_mu h (fun μ6 eμ6 => ?_)
  have hf := zLt_s eμ6 hf
  refine zr_aload_n (pc := 85) h dX1_copyFrom_85 rfl rfl ?_
  refine zf_X1_30 (pc := 86) h h1 dX1_copyFrom_86 ?_
  refine zr_iconst (pc := 89) (v := (0 : Int32)) h dX1_copyFrom_89 (by decide) ?_
  refine zr_aload_n (pc := 90) h dX1_copyFrom_90 rfl rfl ?_
  refine zf_X1_30 (pc := 91) h h0 dX1_copyFrom_91 ?_
  refine zr_iconst (pc := 94) (v := (0 : Int32)) h dX1_copyFrom_94 (by decide) ?_
  refine zr_iconst (pc := 95) (v := (5 : Int32)) h dX1_copyFrom_95 (by decide) ?_
  refine zr_copy (pc := 96) h (gd_X1_7 h1) (gd_X1_7 h0) (by decide) (by decide) (by decide) (by decide) (by decide) zw_823 zw_825 zw_824 zw_197 (by decide) (by decide) dX1_copyFrom_96 ?_
  refine zr_mu h (fun μ7 eμ7 => ?_)
  have hf := zLt_s eμ7 hf
  refine zr_aload_n (pc := 99) h dX1_copyFrom_99 rfl rfl ?_
  refine zf_X1_33 (pc := 100) h h1 dX1_copyFrom_100 ?_
  refine zr_iconst (pc := 103) (v := (0 : Int32)) h dX1_copyFrom_103 (by decide) ?_
  refine zr_aload_n (pc := 104) h dX1_copyFrom_104 rfl rfl ?_
  refine zf_X1_33 (pc := 105) h h0 dX1_copyFrom_105 ?_
  refine zr_iconst (pc := 108) (v := (0 : Int32)) h dX1_copyFrom_108 (by decide) ?_
  refine zr_bipush (pc := 109) (v := (30 : Int32)) h dX1_copyFrom_109 (by decide) ?_
  refine zr_copy (pc := 111) h (gd_X1_8 h1) (gd_X1_8 h0) (by decide) (by decide) (by decide) (by decide) (by decide) zw_823 zw_825 zw_824 zw_197 (by decide) (by decide) dX1_copyFrom_111 ?_
  refine zr_mu h (fun μ8 eμ8 => ?_)
  have hf := zLt_s eμ8 hf
  refine zr_aload_n (pc := 114) h dX1_copyFrom_114 rfl rfl ?_
  refine zf_X1_36 (pc := 115) h h1 dX1_copyFrom_115 ?_
  refine zr_iconst (pc := 118) (v := (0 : Int32)) h dX1_copyFrom_118 (by decide) ?_
  refine zr_aload_n (pc := 119) h dX1_copyFrom_119 rfl rfl ?_
  refine zf_X1_36 (pc := 120) h h0 dX1_copyFrom_120 ?_
  refine zr_iconst (pc := 123) (v := (0 : Int32)) h dX1_copyFrom_123 (by decide) ?_
  refine zr_bipush (pc := 124) (v := (30 : Int32)) h dX1_copyFrom_124 (by decide) ?_
  refine zr_copy (pc := 126) h (gd_X1_9 h1) (gd_X1_9 h0) (by decide) (by decide) (by decide) (by decide) (by decide) zw_823 zw_825 zw_824 zw_197 (by decide) (by decide) dX1_copyFrom_126 ?_
  refine zr_mu h (fun μ9 eμ9 => ?_)
  have hf := zLt_s eμ9 hf
  refine zr_aload_n (pc := 129) h dX1_copyFrom_129 rfl rfl ?_
  refine zr_aload_n (pc := 130) h dX1_copyFrom_130 rfl rfl ?_
  refine zf_X1_48 (pc := 131) h h1 dX1_copyFrom_131 ?_
  refine zp_X1_48 (pc := 134) h h0 dX1_copyFrom_134 ?_
  refine zr_mu h (fun μ10 eμ10 => ?_)
  have hf := zLt_s eμ10 hf
  refine zr_aload_n (pc := 137) h dX1_copyFrom_137 rfl rfl ?_
  refine zf_X1_39 (pc := 138) h h1 dX1_copyFrom_138 ?_
  refine zr_iconst (pc := 141) (v := (0 : Int32)) h dX1_copyFrom_141 (by decide) ?_
  refine zr_aload_n (pc := 142) h dX1_copyFrom_142 rfl rfl ?_
  refine zf_X1_39 (pc := 143) h h0 dX1_copyFrom_143 ?_
  refine zr_iconst (pc := 146) (v := (0 : Int32)) h dX1_copyFrom_146 (by decide) ?_
  refine zr_bipush (pc := 147) (v := (24 : Int32)) h dX1_copyFrom_147 (by decide) ?_
  refine zr_copy (pc := 149) h (gd_X1_11 h1) (gd_X1_11 h0) (by decide) (by decide) (by decide) (by decide) (by decide) zw_823 zw_825 zw_824 zw_197 (by decide) (by decide) dX1_copyFrom_149 ?_
  refine zr_mu h (fun μ11 eμ11 => ?_)
  have hf := zLt_s eμ11 hf
  refine zr_aload_n (pc := 152) h dX1_copyFrom_152 rfl rfl ?_
  refine zf_X1_42 (pc := 153) h h1 dX1_copyFrom_153 ?_
  refine zr_iconst (pc := 156) (v := (0 : Int32)) h dX1_copyFrom_156 (by decide) ?_
  refine zr_aload_n (pc := 157) h dX1_copyFrom_157 rfl rfl ?_
  refine zf_X1_42 (pc := 158) h h0 dX1_copyFrom_158 ?_
  refine zr_iconst (pc := 161) (v := (0 : Int32)) h dX1_copyFrom_161 (by decide) ?_
  refine zr_bipush (pc := 162) (v := (24 : Int32)) h dX1_copyFrom_162 (by decide) ?_
  refine zr_copy (pc := 164) h (gd_X1_12 h1) (gd_X1_12 h0) (by decide) (by decide) (by decide) (by decide) (by decide) zw_823 zw_825 zw_824 zw_197 (by decide) (by decide) dX1_copyFrom_164 ?_
  refine zr_mu h (fun μ12 eμ12 => ?_)
  have hf := zLt_s eμ12 hf
  refine zr_aload_n (pc := 167) h dX1_copyFrom_167 rfl rfl ?_
  refine zf_X1_45 (pc := 168) h h1 dX1_copyFrom_168 ?_
  refine zr_iconst (pc := 171) (v := (0 : Int32)) h dX1_copyFrom_171 (by decide) ?_
  refine zr_aload_n (pc := 172) h dX1_copyFrom_172 rfl rfl ?_
  refine zf_X1_45 (pc := 173) h h0 dX1_copyFrom_173 ?_
  refine zr_iconst (pc := 176) (v := (0 : Int32)) h dX1_copyFrom_176 (by decide) ?_
  refine zr_bipush (pc := 177) (v := (24 : Int32)) h dX1_copyFrom_177 (by decide) ?_
  refine zr_copy (pc := 179) h (gd_X1_13 h1) (gd_X1_13 h0) (by decide) (by decide) (by decide) (by decide) (by decide) zw_823 zw_825 zw_824 zw_197 (by decide) (by decide) dX1_copyFrom_179 ?_
  refine zr_mu h (fun μ13 eμ13 => ?_)
  have hf := zLt_s eμ13 hf
  exact zr_vret (pc := 182) h dX1_copyFrom_182 rfl (zRv hf)

set_option maxRecDepth 100000 in
set_option maxHeartbeats 4000000 in
theorem cX1_isThere_ok {l : Launch} {g : gG} {p0 : Nat} {a1 : Int32} {a2 : Int32} {μ : gM} {r : Int32} (h0 : gk p0 = (0, 1)) (hf : fX1_isThere p0 a1 a2 μ = some r) : gMet l g yX1_isThere cX1_isThere 3 (some .boolean) 0 0 [.ref (g.1 + p0), .int a1, .int a2] μ (some (.int r)) μ := by
  refine gMet_of (gIni [.ref (g.1 + p0), .int a1, .int a2] ++ List.replicate 0 none) (by decide) (gIni_ok _ _) (Nat.le_of_ble_eq_true rfl) (fun K h => ?_)
  show K 0 [some (.ref (g.1 + p0)), some (.int a1), some (.int a2)] [] μ
  unfold fX1_isThere at hf
  refine zr_iload_n (pc := 0) h dX1_isThere_0 rfl rfl ?_
  have hf := zIf_s hf
  refine zr_if_lt (pc := 1) (tgt := 27) h dX1_isThere_1 rfl (fun b5 => ?_) (fun b5 => ?_)
  · have hf := hf.1 b5
    refine zr_iconst (pc := 27) (v := (0 : Int32)) h dX1_isThere_27 (by decide) ?_
    exact zr_zret (pc := 28) h rfl dX1_isThere_28 (zRi hf) rfl
  · have hf := hf.2 b5
    refine zr_iload_n (pc := 4) h dX1_isThere_4 rfl rfl ?_
    refine zr_iconst (pc := 5) (v := (2 : Int32)) h dX1_isThere_5 (by decide) ?_
    have hf := zIf_s hf
    refine zr_icmp_gt (pc := 6) (tgt := 27) h dX1_isThere_6 rfl (fun b4 => ?_) (fun b4 => ?_)
    · have hf := hf.1 b4
      refine zr_iconst (pc := 27) (v := (0 : Int32)) h dX1_isThere_27 (by decide) ?_
      exact zr_zret (pc := 28) h rfl dX1_isThere_28 (zRi hf) rfl
    · have hf := hf.2 b4
      refine zr_iload_n (pc := 9) h dX1_isThere_9 rfl rfl ?_
      have hf := zIf_s hf
      refine zr_if_lt (pc := 10) (tgt := 27) h dX1_isThere_10 rfl (fun b3 => ?_) (fun b3 => ?_)
      · have hf := hf.1 b3
        refine zr_iconst (pc := 27) (v := (0 : Int32)) h dX1_isThere_27 (by decide) ?_
        exact zr_zret (pc := 28) h rfl dX1_isThere_28 (zRi hf) rfl
      · have hf := hf.2 b3
        refine zr_iload_n (pc := 13) h dX1_isThere_13 rfl rfl ?_
        refine zr_aload_n (pc := 14) h dX1_isThere_14 rfl rfl ?_
        refine zf_X1_9 (pc := 15) h h0 dX1_isThere_15 ?_
        refine zr_iload_n (pc := 18) h dX1_isThere_18 rfl rfl ?_
        obtain ⟨q1, hf⟩ := zCk_s hf
        refine zr_iald (pc := 19) h (gd_X1_1 h0) q1 rfl dX1_isThere_19 ?_
        have hf := zIf_s hf
        refine zr_icmp_ge (pc := 20) (tgt := 27) h dX1_isThere_20 rfl (fun b2 => ?_) (fun b2 => ?_)
        · have hf := hf.1 b2
          refine zr_iconst (pc := 27) (v := (0 : Int32)) h dX1_isThere_27 (by decide) ?_
          exact zr_zret (pc := 28) h rfl dX1_isThere_28 (zRi hf) rfl
        · have hf := hf.2 b2
          refine zr_iconst (pc := 23) (v := (1 : Int32)) h dX1_isThere_23 (by decide) ?_
          refine zr_goto (pc := 24) (tgt := 28) h dX1_isThere_24 rfl ?_
          exact zr_zret (pc := 28) h rfl dX1_isThere_28 (zRi hf) rfl

set_option maxRecDepth 100000 in
set_option maxHeartbeats 4000000 in
theorem cX1_isGroup_ok {l : Launch} {g : gG} {p0 : Nat} {a1 : Int32} {μ : gM} {r : Int32} (h0 : gk p0 = (0, 1)) (hf : fX1_isGroup p0 a1 μ = some r) : gMet l g yX1_isGroup cX1_isGroup 2 (some .boolean) 0 0 [.ref (g.1 + p0), .int a1] μ (some (.int r)) μ := by
  refine gMet_of (gIni [.ref (g.1 + p0), .int a1] ++ List.replicate 0 none) (by decide) (gIni_ok _ _) (Nat.le_of_ble_eq_true rfl) (fun K h => ?_)
  show K 0 [some (.ref (g.1 + p0)), some (.int a1)] [] μ
  unfold fX1_isGroup at hf
  refine zr_iload_n (pc := 0) h dX1_isGroup_0 rfl rfl ?_
  have hf := zIf_s hf
  refine zr_if_lt (pc := 1) (tgt := 18) h dX1_isGroup_1 rfl (fun b2 => ?_) (fun b2 => ?_)
  · have hf := hf.1 b2
    refine zr_iconst (pc := 18) (v := (0 : Int32)) h dX1_isGroup_18 (by decide) ?_
    exact zr_zret (pc := 19) h rfl dX1_isGroup_19 (zRi hf) rfl
  · have hf := hf.2 b2
    refine zr_iload_n (pc := 4) h dX1_isGroup_4 rfl rfl ?_
    refine zr_aload_n (pc := 5) h dX1_isGroup_5 rfl rfl ?_
    refine zf_X1_9 (pc := 6) h h0 dX1_isGroup_6 ?_
    refine zr_iconst (pc := 9) (v := (2 : Int32)) h dX1_isGroup_9 (by decide) ?_
    refine zr_iald (pc := 10) (q := 2) h (gd_X1_1 h0) rfl (by decide) dX1_isGroup_10 ?_
    have hf := zIf_s hf
    refine zr_icmp_ge (pc := 11) (tgt := 18) h dX1_isGroup_11 rfl (fun b1 => ?_) (fun b1 => ?_)
    · have hf := hf.1 b1
      refine zr_iconst (pc := 18) (v := (0 : Int32)) h dX1_isGroup_18 (by decide) ?_
      exact zr_zret (pc := 19) h rfl dX1_isGroup_19 (zRi hf) rfl
    · have hf := hf.2 b1
      refine zr_iconst (pc := 14) (v := (1 : Int32)) h dX1_isGroup_14 (by decide) ?_
      refine zr_goto (pc := 15) (tgt := 19) h dX1_isGroup_15 rfl ?_
      exact zr_zret (pc := 19) h rfl dX1_isGroup_19 (zRi hf) rfl

set_option maxRecDepth 100000 in
set_option maxHeartbeats 4000000 in
theorem cX1_isMember_ok {l : Launch} {g : gG} {p0 : Nat} {a1 : Int32} {a2 : Int32} {μ : gM} {r : Int32} (h0 : gk p0 = (0, 1)) (hf : fX1_isMember p0 a1 a2 μ = some r) : gMet l g yX1_isMember cX1_isMember 3 (some .boolean) 1 21 [.ref (g.1 + p0), .int a1, .int a2] μ (some (.int r)) μ := by
  refine gMet_of (gIni [.ref (g.1 + p0), .int a1, .int a2] ++ List.replicate 0 none) (by decide) (gIni_ok _ _) (Nat.le_of_ble_eq_true rfl) (fun K h => ?_)
  show K 0 [some (.ref (g.1 + p0)), some (.int a1), some (.int a2)] [] μ
  unfold fX1_isMember at hf
  refine zr_aload_n (pc := 0) h dX1_isMember_0 rfl rfl ?_
  refine zr_iload_n (pc := 1) h dX1_isMember_1 rfl rfl ?_
  obtain ⟨x1, ex1, hf⟩ := zBd_s hf
  refine zm_X1_58 (pc := 2) h h0 ⟨by decide, by decide⟩ (cX1_isGroup_ok h0 ex1) rfl (Nat.le_of_ble_eq_true rfl) dX1_isMember_2 rfl ?_
  have hf := zIf_s hf
  refine zr_if_eq (pc := 5) (tgt := 40) h dX1_isMember_5 rfl (fun b6 => ?_) (fun b6 => ?_)
  · have hf := hf.1 b6
    refine zr_iconst (pc := 40) (v := (0 : Int32)) h dX1_isMember_40 (by decide) ?_
    exact zr_zret (pc := 41) h rfl dX1_isMember_41 (zRi hf) rfl
  · have hf := hf.2 b6
    refine zr_iload_n (pc := 8) h dX1_isMember_8 rfl rfl ?_
    have hf := zIf_s hf
    refine zr_if_lt (pc := 9) (tgt := 40) h dX1_isMember_9 rfl (fun b5 => ?_) (fun b5 => ?_)
    · have hf := hf.1 b5
      refine zr_iconst (pc := 40) (v := (0 : Int32)) h dX1_isMember_40 (by decide) ?_
      exact zr_zret (pc := 41) h rfl dX1_isMember_41 (zRi hf) rfl
    · have hf := hf.2 b5
      refine zr_iload_n (pc := 12) h dX1_isMember_12 rfl rfl ?_
      refine zr_aload_n (pc := 13) h dX1_isMember_13 rfl rfl ?_
      refine zf_X1_9 (pc := 14) h h0 dX1_isMember_14 ?_
      refine zr_iconst (pc := 17) (v := (0 : Int32)) h dX1_isMember_17 (by decide) ?_
      refine zr_iald (pc := 18) (q := 0) h (gd_X1_1 h0) rfl (by decide) dX1_isMember_18 ?_
      have hf := zIf_s hf
      refine zr_icmp_ge (pc := 19) (tgt := 40) h dX1_isMember_19 rfl (fun b4 => ?_) (fun b4 => ?_)
      · have hf := hf.1 b4
        refine zr_iconst (pc := 40) (v := (0 : Int32)) h dX1_isMember_40 (by decide) ?_
        exact zr_zret (pc := 41) h rfl dX1_isMember_41 (zRi hf) rfl
      · have hf := hf.2 b4
        refine zr_aload_n (pc := 22) h dX1_isMember_22 rfl rfl ?_
        refine zf_X1_30 (pc := 23) h h0 dX1_isMember_23 ?_
        refine zr_iload_n (pc := 26) h dX1_isMember_26 rfl rfl ?_
        obtain ⟨q2, hf⟩ := zCk_s hf
        refine zr_iald (pc := 27) h (gd_X1_7 h0) q2 rfl dX1_isMember_27 ?_
        refine zr_iload_n (pc := 28) h dX1_isMember_28 rfl rfl ?_
        refine zr_ishr (pc := 29) h dX1_isMember_29 ?_
        refine zr_iconst (pc := 30) (v := (1 : Int32)) h dX1_isMember_30 (by decide) ?_
        refine zr_iand (pc := 31) h dX1_isMember_31 ?_
        refine zr_iconst (pc := 32) (v := (1 : Int32)) h dX1_isMember_32 (by decide) ?_
        have hf := zIf_s hf
        refine zr_icmp_ne (pc := 33) (tgt := 40) h dX1_isMember_33 rfl (fun b3 => ?_) (fun b3 => ?_)
        · have hf := hf.2 b3
          refine zr_iconst (pc := 40) (v := (0 : Int32)) h dX1_isMember_40 (by decide) ?_
          exact zr_zret (pc := 41) h rfl dX1_isMember_41 (zRi hf) rfl
        · have hf := hf.1 b3
          refine zr_iconst (pc := 36) (v := (1 : Int32)) h dX1_isMember_36 (by decide) ?_
          refine zr_goto (pc := 37) (tgt := 41) h dX1_isMember_37 rfl ?_
          exact zr_zret (pc := 41) h rfl dX1_isMember_41 (zRi hf) rfl

set_option maxRecDepth 100000 in
set_option maxHeartbeats 4000000 in
theorem cX1_areGates_ok {l : Launch} {g : gG} {p0 : Nat} {a1 : Int32} {μ : gM} {r : Int32} (h0 : gk p0 = (0, 1)) (hf : fX1_areGates p0 a1 μ = some r) : gMet l g yX1_areGates cX1_areGates 2 (some .boolean) 0 0 [.ref (g.1 + p0), .int a1] μ (some (.int r)) μ := by
  refine gMet_of (gIni [.ref (g.1 + p0), .int a1] ++ List.replicate 0 none) (by decide) (gIni_ok _ _) (Nat.le_of_ble_eq_true rfl) (fun K h => ?_)
  show K 0 [some (.ref (g.1 + p0)), some (.int a1)] [] μ
  unfold fX1_areGates at hf
  refine zr_iload_n (pc := 0) h dX1_areGates_0 rfl rfl ?_
  have hf := zIf_s hf
  refine zr_if_lt (pc := 1) (tgt := 20) h dX1_areGates_1 rfl (fun b2 => ?_) (fun b2 => ?_)
  · have hf := hf.1 b2
    refine zr_iconst (pc := 20) (v := (0 : Int32)) h dX1_areGates_20 (by decide) ?_
    exact zr_zret (pc := 21) h rfl dX1_areGates_21 (zRi hf) rfl
  · have hf := hf.2 b2
    refine zr_iload_n (pc := 4) h dX1_areGates_4 rfl rfl ?_
    refine zr_iconst (pc := 5) (v := (1 : Int32)) h dX1_areGates_5 (by decide) ?_
    refine zr_aload_n (pc := 6) h dX1_areGates_6 rfl rfl ?_
    refine zf_X1_9 (pc := 7) h h0 dX1_areGates_7 ?_
    refine zr_iconst (pc := 10) (v := (0 : Int32)) h dX1_areGates_10 (by decide) ?_
    refine zr_iald (pc := 11) (q := 0) h (gd_X1_1 h0) rfl (by decide) dX1_areGates_11 ?_
    refine zr_ishl (pc := 12) h dX1_areGates_12 ?_
    have hf := zIf_s hf
    refine zr_icmp_ge (pc := 13) (tgt := 20) h dX1_areGates_13 rfl (fun b1 => ?_) (fun b1 => ?_)
    · have hf := hf.1 b1
      refine zr_iconst (pc := 20) (v := (0 : Int32)) h dX1_areGates_20 (by decide) ?_
      exact zr_zret (pc := 21) h rfl dX1_areGates_21 (zRi hf) rfl
    · have hf := hf.2 b1
      refine zr_iconst (pc := 16) (v := (1 : Int32)) h dX1_areGates_16 (by decide) ?_
      refine zr_goto (pc := 17) (tgt := 21) h dX1_areGates_17 rfl ?_
      exact zr_zret (pc := 21) h rfl dX1_areGates_21 (zRi hf) rfl

set_option maxRecDepth 100000 in
set_option maxHeartbeats 4000000 in
theorem cX1_areLinks_ok {l : Launch} {g : gG} {p0 : Nat} {a1 : Int32} {μ : gM} {r : Int32} (h0 : gk p0 = (0, 1)) (hf : fX1_areLinks p0 a1 μ = some r) : gMet l g yX1_areLinks cX1_areLinks 2 (some .boolean) 0 0 [.ref (g.1 + p0), .int a1] μ (some (.int r)) μ := by
  refine gMet_of (gIni [.ref (g.1 + p0), .int a1] ++ List.replicate 0 none) (by decide) (gIni_ok _ _) (Nat.le_of_ble_eq_true rfl) (fun K h => ?_)
  show K 0 [some (.ref (g.1 + p0)), some (.int a1)] [] μ
  unfold fX1_areLinks at hf
  refine zr_iload_n (pc := 0) h dX1_areLinks_0 rfl rfl ?_
  have hf := zIf_s hf
  refine zr_if_lt (pc := 1) (tgt := 20) h dX1_areLinks_1 rfl (fun b2 => ?_) (fun b2 => ?_)
  · have hf := hf.1 b2
    refine zr_iconst (pc := 20) (v := (0 : Int32)) h dX1_areLinks_20 (by decide) ?_
    exact zr_zret (pc := 21) h rfl dX1_areLinks_21 (zRi hf) rfl
  · have hf := hf.2 b2
    refine zr_iload_n (pc := 4) h dX1_areLinks_4 rfl rfl ?_
    refine zr_iconst (pc := 5) (v := (1 : Int32)) h dX1_areLinks_5 (by decide) ?_
    refine zr_aload_n (pc := 6) h dX1_areLinks_6 rfl rfl ?_
    refine zf_X1_9 (pc := 7) h h0 dX1_areLinks_7 ?_
    refine zr_iconst (pc := 10) (v := (1 : Int32)) h dX1_areLinks_10 (by decide) ?_
    refine zr_iald (pc := 11) (q := 1) h (gd_X1_1 h0) rfl (by decide) dX1_areLinks_11 ?_
    refine zr_ishl (pc := 12) h dX1_areLinks_12 ?_
    have hf := zIf_s hf
    refine zr_icmp_ge (pc := 13) (tgt := 20) h dX1_areLinks_13 rfl (fun b1 => ?_) (fun b1 => ?_)
    · have hf := hf.1 b1
      refine zr_iconst (pc := 20) (v := (0 : Int32)) h dX1_areLinks_20 (by decide) ?_
      exact zr_zret (pc := 21) h rfl dX1_areLinks_21 (zRi hf) rfl
    · have hf := hf.2 b1
      refine zr_iconst (pc := 16) (v := (1 : Int32)) h dX1_areLinks_16 (by decide) ?_
      refine zr_goto (pc := 17) (tgt := 21) h dX1_areLinks_17 rfl ?_
      exact zr_zret (pc := 21) h rfl dX1_areLinks_21 (zRi hf) rfl

set_option maxRecDepth 100000 in
set_option maxHeartbeats 4000000 in
theorem fX1_countMembers_l4_ok {l : Launch} {g : gG} {p0 : Nat} {r : Int32} {μe : gM} {K : gKt} (h : gR l g cX1_countMembers RX1 3 (some .int) (gRm 1 20) (some (.int r)) μe K) (h0 : gk p0 = (0, 1)) : ∀ (n : Nat) (y1 : Int32) (y2 : Int32), fX1_countMembers_l4 p0 n y1 y2 μe = some r → K 4 [some (.ref (g.1 + p0)), some (.int y1), some (.int y2)] [] μe := by
  intro n
  induction n with
  | zero =>
    intro y1 y2 hf
    cases (show (none : Option Int32) = some _ from hf)
  | succ n ih =>
    intro y1 y2 hf
    unfold fX1_countMembers_l4 at hf
    refine zr_iload_n (pc := 4) h dX1_countMembers_4 rfl rfl ?_
    refine zr_iconst (pc := 5) (v := (5 : Int32)) h dX1_countMembers_5 (by decide) ?_
    have hf := zIf_s hf
    refine zr_icmp_ge (pc := 6) (tgt := 27) h dX1_countMembers_6 rfl (fun b5 => ?_) (fun b5 => ?_)
    · have hf := hf.1 b5
      refine zr_iload_n (pc := 27) h dX1_countMembers_27 rfl rfl ?_
      exact zr_iret (pc := 28) h dX1_countMembers_28 (zRi hf) rfl
    · have hf := hf.2 b5
      refine zr_iload_n (pc := 9) h dX1_countMembers_9 rfl rfl ?_
      refine zr_aload_n (pc := 10) h dX1_countMembers_10 rfl rfl ?_
      refine zf_X1_30 (pc := 11) h h0 dX1_countMembers_11 ?_
      refine zr_iload_n (pc := 14) h dX1_countMembers_14 rfl rfl ?_
      obtain ⟨q1, hf⟩ := zCk_s hf
      refine zr_iald (pc := 15) h (gd_X1_7 h0) q1 rfl dX1_countMembers_15 ?_
      obtain ⟨x2, ex2, hf⟩ := zBd_s hf
      refine zm_X1_62 (pc := 16) h ⟨by decide, by decide⟩ (cJ6_bitCount_0f7a4_ok ex2) rfl (Nat.le_of_ble_eq_true rfl) dX1_countMembers_16 rfl ?_
      refine zr_iadd (pc := 19) h dX1_countMembers_19 ?_
      refine zr_topi h (fun x3 ex3 => ?_)
      have hf := zLt_s ex3 hf
      refine zr_istore_n (pc := 20) h dX1_countMembers_20 rfl (by decide) rfl ?_
      refine zr_iincx (pc := 21) h dX1_countMembers_21 rfl (by decide) rfl (c := (1 : Int32)) (by decide) (fun x4 ex4 => ?_)
      have hf := zLt_s ex4 hf
      refine zr_goto (pc := 24) (tgt := 4) h dX1_countMembers_24 rfl ?_
      exact zr_weak h [true, true, true] (ih _ _ hf)

set_option maxRecDepth 100000 in
set_option maxHeartbeats 4000000 in
theorem cX1_countMembers_ok {l : Launch} {g : gG} {p0 : Nat} {μ : gM} {r : Int32} (h0 : gk p0 = (0, 1)) (hf : fX1_countMembers p0 μ = some r) : gMet l g yX1_countMembers cX1_countMembers 3 (some .int) 1 20 [.ref (g.1 + p0)] μ (some (.int r)) μ := by
  refine gMet_of (gIni [.ref (g.1 + p0)] ++ List.replicate 2 none) (by decide) (gIni_ok _ _) (Nat.le_of_ble_eq_true rfl) (fun K h => ?_)
  show K 0 [some (.ref (g.1 + p0)), none, none] [] μ
  unfold fX1_countMembers at hf
  refine zr_iconst (pc := 0) (v := (0 : Int32)) h dX1_countMembers_0 (by decide) ?_
  refine zr_istore_n (pc := 1) h dX1_countMembers_1 rfl (by decide) rfl ?_
  refine zr_iconst (pc := 2) (v := (0 : Int32)) h dX1_countMembers_2 (by decide) ?_
  refine zr_istore_n (pc := 3) h dX1_countMembers_3 rfl (by decide) rfl ?_
  exact zr_weak h [true, true, true] (fX1_countMembers_l4_ok h h0 100000 _ _ hf)

set_option maxRecDepth 100000 in
set_option maxHeartbeats 4000000 in
theorem fX1_find_l2_ok {l : Launch} {g : gG} {p0 : Nat} {r : Int32} {μe : gM} {K : gKt} (h : gR l g cX1_find RX1 4 (some .int) (gRm 0 0) (some (.int r)) μe K) (h0 : gk p0 = (0, 1)) : ∀ (n : Nat) (y1 : Int32) (y2 : Int32) (y3 : Int32), fX1_find_l2 p0 n y1 y2 y3 μe = some r → K 2 [some (.ref (g.1 + p0)), some (.int y1), some (.int y2), some (.int y3)] [] μe := by
  intro n
  induction n with
  | zero =>
    intro y1 y2 y3 hf
    cases (show (none : Option Int32) = some _ from hf)
  | succ n ih =>
    intro y1 y2 y3 hf
    unfold fX1_find_l2 at hf
    refine zr_iload_n (pc := 2) h dX1_find_2 rfl rfl ?_
    have hf := zIf_s hf
    refine zr_if_lt (pc := 3) (tgt := 50) h dX1_find_3 rfl (fun b8 => ?_) (fun b8 => ?_)
    · have hf := hf.1 b8
      refine zr_iconst (pc := 50) (v := (-1 : Int32)) h dX1_find_50 (by decide) ?_
      exact zr_iret (pc := 51) h dX1_find_51 (zRi hf) rfl
    · have hf := hf.2 b8
      refine zr_iload_n (pc := 6) h dX1_find_6 rfl rfl ?_
      refine zr_iconst (pc := 7) (v := (2 : Int32)) h dX1_find_7 (by decide) ?_
      have hf := zIf_s hf
      refine zr_icmp_gt (pc := 8) (tgt := 50) h dX1_find_8 rfl (fun b7 => ?_) (fun b7 => ?_)
      · have hf := hf.1 b7
        refine zr_iconst (pc := 50) (v := (-1 : Int32)) h dX1_find_50 (by decide) ?_
        exact zr_iret (pc := 51) h dX1_find_51 (zRi hf) rfl
      · have hf := hf.2 b7
        refine zr_iload_n (pc := 11) h dX1_find_11 rfl rfl ?_
        refine zr_aload_n (pc := 12) h dX1_find_12 rfl rfl ?_
        refine zf_X1_9 (pc := 13) h h0 dX1_find_13 ?_
        refine zr_iload_n (pc := 16) h dX1_find_16 rfl rfl ?_
        obtain ⟨q1, hf⟩ := zCk_s hf
        refine zr_iald (pc := 17) h (gd_X1_1 h0) q1 rfl dX1_find_17 ?_
        have hf := zIf_s hf
        refine zr_icmp_ge (pc := 18) (tgt := 50) h dX1_find_18 rfl (fun b6 => ?_) (fun b6 => ?_)
        · have hf := hf.1 b6
          refine zr_iconst (pc := 50) (v := (-1 : Int32)) h dX1_find_50 (by decide) ?_
          exact zr_iret (pc := 51) h dX1_find_51 (zRi hf) rfl
        · have hf := hf.2 b6
          refine zr_iload_n (pc := 21) h dX1_find_21 rfl rfl ?_
          refine zr_bipush (pc := 22) (v := (8 : Int32)) h dX1_find_22 (by decide) ?_
          have hf := zIf_s hf
          refine zr_icmp_ge (pc := 24) (tgt := 50) h dX1_find_24 rfl (fun b5 => ?_) (fun b5 => ?_)
          · have hf := hf.1 b5
            refine zr_iconst (pc := 50) (v := (-1 : Int32)) h dX1_find_50 (by decide) ?_
            exact zr_iret (pc := 51) h dX1_find_51 (zRi hf) rfl
          · have hf := hf.2 b5
            refine zr_aload_n (pc := 27) h dX1_find_27 rfl rfl ?_
            refine zf_X1_15 (pc := 28) h h0 dX1_find_28 ?_
            refine zr_iload_n (pc := 31) h dX1_find_31 rfl rfl ?_
            refine zr_bipush (pc := 32) (v := (8 : Int32)) h dX1_find_32 (by decide) ?_
            refine zr_imul (pc := 34) h dX1_find_34 ?_
            refine zr_iload_n (pc := 35) h dX1_find_35 rfl rfl ?_
            refine zr_iadd (pc := 36) h dX1_find_36 ?_
            obtain ⟨q2, hf⟩ := zCk_s hf
            refine zr_iald (pc := 37) h (gd_X1_2 h0) q2 rfl dX1_find_37 ?_
            refine zr_iload_n (pc := 38) h dX1_find_38 rfl rfl ?_
            have hf := zIf_s hf
            refine zr_icmp_ne (pc := 39) (tgt := 44) h dX1_find_39 rfl (fun b4 => ?_) (fun b4 => ?_)
            · have hf := hf.2 b4
              refine zr_iincx (pc := 44) h dX1_find_44 rfl (by decide) rfl (c := (1 : Int32)) (by decide) (fun x3 ex3 => ?_)
              have hf := zLt_s ex3 hf
              refine zr_goto (pc := 47) (tgt := 2) h dX1_find_47 rfl ?_
              exact zr_weak h [true, true, true, true] (ih _ _ _ hf)
            · have hf := hf.1 b4
              refine zr_iload_n (pc := 42) h dX1_find_42 rfl rfl ?_
              exact zr_iret (pc := 43) h dX1_find_43 (zRi hf) rfl

set_option maxRecDepth 100000 in
set_option maxHeartbeats 4000000 in
theorem cX1_find_ok {l : Launch} {g : gG} {p0 : Nat} {a1 : Int32} {a2 : Int32} {μ : gM} {r : Int32} (h0 : gk p0 = (0, 1)) (hf : fX1_find p0 a1 a2 μ = some r) : gMet l g yX1_find cX1_find 4 (some .int) 0 0 [.ref (g.1 + p0), .int a1, .int a2] μ (some (.int r)) μ := by
  refine gMet_of (gIni [.ref (g.1 + p0), .int a1, .int a2] ++ List.replicate 1 none) (by decide) (gIni_ok _ _) (Nat.le_of_ble_eq_true rfl) (fun K h => ?_)
  show K 0 [some (.ref (g.1 + p0)), some (.int a1), some (.int a2), none] [] μ
  unfold fX1_find at hf
  refine zr_iconst (pc := 0) (v := (0 : Int32)) h dX1_find_0 (by decide) ?_
  refine zr_istore_n (pc := 1) h dX1_find_1 rfl (by decide) rfl ?_
  exact zr_weak h [true, true, true, true] (fX1_find_l2_ok h h0 100000 _ _ _ hf)

set_option maxRecDepth 100000 in
set_option maxHeartbeats 4000000 in
theorem cX1_isTold_ok {l : Launch} {g : gG} {p0 : Nat} {a1 : Int32} {μ : gM} {r : Int32} (h0 : gk p0 = (0, 1)) (hf : fX1_isTold p0 a1 μ = some r) : gMet l g yX1_isTold cX1_isTold 2 (some .boolean) 1 23 [.ref (g.1 + p0), .int a1] μ (some (.int r)) μ := by
  refine gMet_of (gIni [.ref (g.1 + p0), .int a1] ++ List.replicate 0 none) (by decide) (gIni_ok _ _) (Nat.le_of_ble_eq_true rfl) (fun K h => ?_)
  show K 0 [some (.ref (g.1 + p0)), some (.int a1)] [] μ
  unfold fX1_isTold at hf
  refine zr_aload_n (pc := 0) h dX1_isTold_0 rfl rfl ?_
  refine zr_iconst (pc := 1) (v := (0 : Int32)) h dX1_isTold_1 (by decide) ?_
  refine zr_iload_n (pc := 2) h dX1_isTold_2 rfl rfl ?_
  obtain ⟨x1, ex1, hf⟩ := zBd_s hf
  refine zm_X1_68 (pc := 3) h h0 ⟨by decide, by decide⟩ (cX1_find_ok h0 ex1) rfl (Nat.le_of_ble_eq_true rfl) dX1_isTold_3 rfl ?_
  refine zr_iconst (pc := 6) (v := (-1 : Int32)) h dX1_isTold_6 (by decide) ?_
  have hf := zIf_s hf
  refine zr_icmp_ne (pc := 7) (tgt := 30) h dX1_isTold_7 rfl (fun b6 => ?_) (fun b6 => ?_)
  · have hf := hf.2 b6
    refine zr_iconst (pc := 30) (v := (1 : Int32)) h dX1_isTold_30 (by decide) ?_
    refine zr_goto (pc := 31) (tgt := 35) h dX1_isTold_31 rfl ?_
    exact zr_zret (pc := 35) h rfl dX1_isTold_35 (zRi hf) rfl
  · have hf := hf.1 b6
    refine zr_aload_n (pc := 10) h dX1_isTold_10 rfl rfl ?_
    refine zr_iconst (pc := 11) (v := (1 : Int32)) h dX1_isTold_11 (by decide) ?_
    refine zr_iload_n (pc := 12) h dX1_isTold_12 rfl rfl ?_
    obtain ⟨x2, ex2, hf⟩ := zBd_s hf
    refine zm_X1_68 (pc := 13) h h0 ⟨by decide, by decide⟩ (cX1_find_ok h0 ex2) rfl (Nat.le_of_ble_eq_true rfl) dX1_isTold_13 rfl ?_
    refine zr_iconst (pc := 16) (v := (-1 : Int32)) h dX1_isTold_16 (by decide) ?_
    have hf := zIf_s hf
    refine zr_icmp_ne (pc := 17) (tgt := 30) h dX1_isTold_17 rfl (fun b5 => ?_) (fun b5 => ?_)
    · have hf := hf.2 b5
      refine zr_iconst (pc := 30) (v := (1 : Int32)) h dX1_isTold_30 (by decide) ?_
      refine zr_goto (pc := 31) (tgt := 35) h dX1_isTold_31 rfl ?_
      exact zr_zret (pc := 35) h rfl dX1_isTold_35 (zRi hf) rfl
    · have hf := hf.1 b5
      refine zr_aload_n (pc := 20) h dX1_isTold_20 rfl rfl ?_
      refine zr_iconst (pc := 21) (v := (2 : Int32)) h dX1_isTold_21 (by decide) ?_
      refine zr_iload_n (pc := 22) h dX1_isTold_22 rfl rfl ?_
      obtain ⟨x3, ex3, hf⟩ := zBd_s hf
      refine zm_X1_68 (pc := 23) h h0 ⟨by decide, by decide⟩ (cX1_find_ok h0 ex3) rfl (Nat.le_of_ble_eq_true rfl) dX1_isTold_23 rfl ?_
      refine zr_iconst (pc := 26) (v := (-1 : Int32)) h dX1_isTold_26 (by decide) ?_
      have hf := zIf_s hf
      refine zr_icmp_eq (pc := 27) (tgt := 34) h dX1_isTold_27 rfl (fun b4 => ?_) (fun b4 => ?_)
      · have hf := hf.1 b4
        refine zr_iconst (pc := 34) (v := (0 : Int32)) h dX1_isTold_34 (by decide) ?_
        exact zr_zret (pc := 35) h rfl dX1_isTold_35 (zRi hf) rfl
      · have hf := hf.2 b4
        refine zr_iconst (pc := 30) (v := (1 : Int32)) h dX1_isTold_30 (by decide) ?_
        refine zr_goto (pc := 31) (tgt := 35) h dX1_isTold_31 rfl ?_
        exact zr_zret (pc := 35) h rfl dX1_isTold_35 (zRi hf) rfl

set_option maxRecDepth 100000 in
set_option maxHeartbeats 4000000 in
theorem cX1_room_ok {l : Launch} {g : gG} {a1 : Int32} {μ : gM} {r : Int32} (hf : fX1_room a1 μ = some r) : gMet l g yX1_room cX1_room 1 (some .int) 0 0 [.int a1] μ (some (.int r)) μ := by
  refine gMet_of (gIni [.int a1] ++ List.replicate 0 none) (by decide) (gIni_ok _ _) (Nat.le_of_ble_eq_true rfl) (fun K h => ?_)
  show K 0 [some (.int a1)] [] μ
  unfold fX1_room at hf
  refine zr_iload_n (pc := 0) h dX1_room_0 rfl rfl ?_
  have hf := zIf_s hf
  refine zr_if_ne (pc := 1) (tgt := 7) h dX1_room_1 rfl (fun b2 => ?_) (fun b2 => ?_)
  · have hf := hf.2 b2
    refine zr_iload_n (pc := 7) h dX1_room_7 rfl rfl ?_
    refine zr_iconst (pc := 8) (v := (1 : Int32)) h dX1_room_8 (by decide) ?_
    have hf := zIf_s hf
    refine zr_icmp_ne (pc := 9) (tgt := 17) h dX1_room_9 rfl (fun b1 => ?_) (fun b1 => ?_)
    · have hf := hf.2 b1
      refine zr_iconst (pc := 17) (v := (5 : Int32)) h dX1_room_17 (by decide) ?_
      exact zr_iret (pc := 18) h dX1_room_18 (zRi hf) rfl
    · have hf := hf.1 b1
      refine zr_bipush (pc := 12) (v := (8 : Int32)) h dX1_room_12 (by decide) ?_
      refine zr_goto (pc := 14) (tgt := 18) h dX1_room_14 rfl ?_
      exact zr_iret (pc := 18) h dX1_room_18 (zRi hf) rfl
  · have hf := hf.1 b2
    refine zr_bipush (pc := 4) (v := (6 : Int32)) h dX1_room_4 (by decide) ?_
    exact zr_iret (pc := 6) h dX1_room_6 (zRi hf) rfl

set_option maxRecDepth 100000 in
set_option maxHeartbeats 4000000 in
theorem fX1_isTracked_l2_ok {l : Launch} {g : gG} {p0 : Nat} {r : Int32} {μe : gM} {K : gKt} (h : gR l g cX1_isTracked RX1 4 (some .boolean) (gRm 0 0) (some (.int r)) μe K) (h0 : gk p0 = (0, 1)) : ∀ (n : Nat) (y1 : Int32) (y2 : Int32) (y3 : Int32), fX1_isTracked_l2 p0 n y1 y2 y3 μe = some r → K 2 [some (.ref (g.1 + p0)), some (.int y1), some (.int y2), some (.int y3)] [] μe := by
  intro n
  induction n with
  | zero =>
    intro y1 y2 y3 hf
    cases (show (none : Option Int32) = some _ from hf)
  | succ n ih =>
    intro y1 y2 y3 hf
    unfold fX1_isTracked_l2 at hf
    refine zr_iload_n (pc := 2) h dX1_isTracked_2 rfl rfl ?_
    refine zr_aload_n (pc := 3) h dX1_isTracked_3 rfl rfl ?_
    refine zf_X1_48 (pc := 4) h h0 dX1_isTracked_4 ?_
    have hf := zIf_s hf
    refine zr_icmp_ge (pc := 7) (tgt := 44) h dX1_isTracked_7 rfl (fun b8 => ?_) (fun b8 => ?_)
    · have hf := hf.1 b8
      refine zr_iconst (pc := 44) (v := (0 : Int32)) h dX1_isTracked_44 (by decide) ?_
      exact zr_zret (pc := 45) h rfl dX1_isTracked_45 (zRi hf) rfl
    · have hf := hf.2 b8
      refine zr_iload_n (pc := 10) h dX1_isTracked_10 rfl rfl ?_
      refine zr_bipush (pc := 11) (v := (24 : Int32)) h dX1_isTracked_11 (by decide) ?_
      have hf := zIf_s hf
      refine zr_icmp_ge (pc := 13) (tgt := 44) h dX1_isTracked_13 rfl (fun b7 => ?_) (fun b7 => ?_)
      · have hf := hf.1 b7
        refine zr_iconst (pc := 44) (v := (0 : Int32)) h dX1_isTracked_44 (by decide) ?_
        exact zr_zret (pc := 45) h rfl dX1_isTracked_45 (zRi hf) rfl
      · have hf := hf.2 b7
        refine zr_aload_n (pc := 16) h dX1_isTracked_16 rfl rfl ?_
        refine zf_X1_39 (pc := 17) h h0 dX1_isTracked_17 ?_
        refine zr_iload_n (pc := 20) h dX1_isTracked_20 rfl rfl ?_
        obtain ⟨q1, hf⟩ := zCk_s hf
        refine zr_iald (pc := 21) h (gd_X1_11 h0) q1 rfl dX1_isTracked_21 ?_
        refine zr_iload_n (pc := 22) h dX1_isTracked_22 rfl rfl ?_
        have hf := zIf_s hf
        refine zr_icmp_ne (pc := 23) (tgt := 38) h dX1_isTracked_23 rfl (fun b6 => ?_) (fun b6 => ?_)
        · have hf := hf.2 b6
          refine zr_iincx (pc := 38) h dX1_isTracked_38 rfl (by decide) rfl (c := (1 : Int32)) (by decide) (fun x2 ex2 => ?_)
          have hf := zLt_s ex2 hf
          refine zr_goto (pc := 41) (tgt := 2) h dX1_isTracked_41 rfl ?_
          exact zr_weak h [true, true, true, true] (ih _ _ _ hf)
        · have hf := hf.1 b6
          refine zr_aload_n (pc := 26) h dX1_isTracked_26 rfl rfl ?_
          refine zf_X1_42 (pc := 27) h h0 dX1_isTracked_27 ?_
          refine zr_iload_n (pc := 30) h dX1_isTracked_30 rfl rfl ?_
          obtain ⟨q3, hf⟩ := zCk_s hf
          refine zr_iald (pc := 31) h (gd_X1_12 h0) q3 rfl dX1_isTracked_31 ?_
          refine zr_iload_n (pc := 32) h dX1_isTracked_32 rfl rfl ?_
          have hf := zIf_s hf
          refine zr_icmp_ne (pc := 33) (tgt := 38) h dX1_isTracked_33 rfl (fun b5 => ?_) (fun b5 => ?_)
          · have hf := hf.2 b5
            refine zr_iincx (pc := 38) h dX1_isTracked_38 rfl (by decide) rfl (c := (1 : Int32)) (by decide) (fun x4 ex4 => ?_)
            have hf := zLt_s ex4 hf
            refine zr_goto (pc := 41) (tgt := 2) h dX1_isTracked_41 rfl ?_
            exact zr_weak h [true, true, true, true] (ih _ _ _ hf)
          · have hf := hf.1 b5
            refine zr_iconst (pc := 36) (v := (1 : Int32)) h dX1_isTracked_36 (by decide) ?_
            exact zr_zret (pc := 37) h rfl dX1_isTracked_37 (zRi hf) rfl

set_option maxRecDepth 100000 in
set_option maxHeartbeats 4000000 in
theorem cX1_isTracked_ok {l : Launch} {g : gG} {p0 : Nat} {a1 : Int32} {a2 : Int32} {μ : gM} {r : Int32} (h0 : gk p0 = (0, 1)) (hf : fX1_isTracked p0 a1 a2 μ = some r) : gMet l g yX1_isTracked cX1_isTracked 4 (some .boolean) 0 0 [.ref (g.1 + p0), .int a1, .int a2] μ (some (.int r)) μ := by
  refine gMet_of (gIni [.ref (g.1 + p0), .int a1, .int a2] ++ List.replicate 1 none) (by decide) (gIni_ok _ _) (Nat.le_of_ble_eq_true rfl) (fun K h => ?_)
  show K 0 [some (.ref (g.1 + p0)), some (.int a1), some (.int a2), none] [] μ
  unfold fX1_isTracked at hf
  refine zr_iconst (pc := 0) (v := (0 : Int32)) h dX1_isTracked_0 (by decide) ?_
  refine zr_istore_n (pc := 1) h dX1_isTracked_1 rfl (by decide) rfl ?_
  exact zr_weak h [true, true, true, true] (fX1_isTracked_l2_ok h h0 100000 _ _ _ hf)

set_option maxRecDepth 100000 in
set_option maxHeartbeats 4000000 in
theorem fX1_weightOf_n77_ok {l : Launch} {g : gG} {p0 : Nat} {r : Int32} {μe : gM} {K : gKt} (h : gR l g cX1_weightOf RX1 6 (some .int) (gRm 0 0) (some (.int r)) μe K) (h0 : gk p0 = (0, 1)) {y4 : Int32} (hf : fX1_weightOf_n77 p0 y4 μe = some r) : K 77 [none, none, none, none, some (.int y4), none] [] μe := by
  unfold fX1_weightOf_n77 at hf
  refine zr_iload (pc := 77) h dX1_weightOf_77 rfl ?_
  refine zr_iconst (pc := 79) (v := (1 : Int32)) h dX1_weightOf_79 (by decide) ?_
  have hf := zIf_s hf
  refine zr_icmp_ge (pc := 80) (tgt := 87) h dX1_weightOf_80 rfl (fun b1 => ?_) (fun b1 => ?_)
  · have hf := hf.1 b1
    refine zr_iload (pc := 87) h dX1_weightOf_87 rfl ?_
    exact zr_iret (pc := 89) h dX1_weightOf_89 (zRi hf) rfl
  · have hf := hf.2 b1
    refine zr_iconst (pc := 83) (v := (1 : Int32)) h dX1_weightOf_83 (by decide) ?_
    refine zr_goto (pc := 84) (tgt := 89) h dX1_weightOf_84 rfl ?_
    exact zr_iret (pc := 89) h dX1_weightOf_89 (zRi hf) rfl

set_option maxRecDepth 100000 in
set_option maxHeartbeats 4000000 in
theorem fX1_weightOf_l17_ok {l : Launch} {g : gG} {p0 : Nat} {r : Int32} {μe : gM} {K : gKt} (h : gR l g cX1_weightOf RX1 6 (some .int) (gRm 0 0) (some (.int r)) μe K) (h0 : gk p0 = (0, 1)) : ∀ (n : Nat) (y1 : Int32) (y3 : Int32) (y4 : Int32) (y5 : Int32), fX1_weightOf_l17 p0 n y1 y3 y4 y5 μe = some r → K 17 [some (.ref (g.1 + p0)), some (.int y1), none, some (.int y3), some (.int y4), some (.int y5)] [] μe := by
  intro n
  induction n with
  | zero =>
    intro y1 y3 y4 y5 hf
    cases (show (none : Option Int32) = some _ from hf)
  | succ n ih =>
    intro y1 y3 y4 y5 hf
    unfold fX1_weightOf_l17 at hf
    refine zr_iload (pc := 17) h dX1_weightOf_17 rfl ?_
    refine zr_aload_n (pc := 19) h dX1_weightOf_19 rfl rfl ?_
    refine zf_X1_48 (pc := 20) h h0 dX1_weightOf_20 ?_
    have hf := zIf_s hf
    refine zr_icmp_ge (pc := 23) (tgt := 77) h dX1_weightOf_23 rfl (fun b12 => ?_) (fun b12 => ?_)
    · have hf := hf.1 b12
      exact zr_weak h [false, false, false, false, true, false] (fX1_weightOf_n77_ok h h0 hf)
    · have hf := hf.2 b12
      refine zr_iload (pc := 26) h dX1_weightOf_26 rfl ?_
      refine zr_bipush (pc := 28) (v := (24 : Int32)) h dX1_weightOf_28 (by decide) ?_
      have hf := zIf_s hf
      refine zr_icmp_ge (pc := 30) (tgt := 77) h dX1_weightOf_30 rfl (fun b11 => ?_) (fun b11 => ?_)
      · have hf := hf.1 b11
        exact zr_weak h [false, false, false, false, true, false] (fX1_weightOf_n77_ok h h0 hf)
      · have hf := hf.2 b11
        refine zr_aload_n (pc := 33) h dX1_weightOf_33 rfl rfl ?_
        refine zf_X1_39 (pc := 34) h h0 dX1_weightOf_34 ?_
        refine zr_iload (pc := 37) h dX1_weightOf_37 rfl ?_
        obtain ⟨q2, hf⟩ := zCk_s hf
        refine zr_iald (pc := 39) h (gd_X1_11 h0) q2 rfl dX1_weightOf_39 ?_
        refine zr_iload_n (pc := 40) h dX1_weightOf_40 rfl rfl ?_
        have hf := zIf_s hf
        refine zr_icmp_ne (pc := 41) (tgt := 71) h dX1_weightOf_41 rfl (fun b10 => ?_) (fun b10 => ?_)
        · have hf := hf.2 b10
          refine zr_iincx (pc := 71) h dX1_weightOf_71 rfl (by decide) rfl (c := (1 : Int32)) (by decide) (fun x3 ex3 => ?_)
          have hf := zLt_s ex3 hf
          refine zr_goto (pc := 74) (tgt := 17) h dX1_weightOf_74 rfl ?_
          exact zr_weak h [true, true, false, true, true, true] (ih _ _ _ _ hf)
        · have hf := hf.1 b10
          refine zr_iload_n (pc := 44) h dX1_weightOf_44 rfl rfl ?_
          refine zr_aload_n (pc := 45) h dX1_weightOf_45 rfl rfl ?_
          refine zf_X1_42 (pc := 46) h h0 dX1_weightOf_46 ?_
          refine zr_iload (pc := 49) h dX1_weightOf_49 rfl ?_
          obtain ⟨q4, hf⟩ := zCk_s hf
          refine zr_iald (pc := 51) h (gd_X1_12 h0) q4 rfl dX1_weightOf_51 ?_
          refine zr_ishr (pc := 52) h dX1_weightOf_52 ?_
          refine zr_iconst (pc := 53) (v := (1 : Int32)) h dX1_weightOf_53 (by decide) ?_
          refine zr_iand (pc := 54) h dX1_weightOf_54 ?_
          refine zr_iconst (pc := 55) (v := (1 : Int32)) h dX1_weightOf_55 (by decide) ?_
          have hf := zIf_s hf
          refine zr_icmp_ne (pc := 56) (tgt := 71) h dX1_weightOf_56 rfl (fun b9 => ?_) (fun b9 => ?_)
          · have hf := hf.2 b9
            refine zr_iincx (pc := 71) h dX1_weightOf_71 rfl (by decide) rfl (c := (1 : Int32)) (by decide) (fun x5 ex5 => ?_)
            have hf := zLt_s ex5 hf
            refine zr_goto (pc := 74) (tgt := 17) h dX1_weightOf_74 rfl ?_
            exact zr_weak h [true, true, false, true, true, true] (ih _ _ _ _ hf)
          · have hf := hf.1 b9
            refine zr_iload (pc := 59) h dX1_weightOf_59 rfl ?_
            refine zr_aload_n (pc := 61) h dX1_weightOf_61 rfl rfl ?_
            refine zf_X1_45 (pc := 62) h h0 dX1_weightOf_62 ?_
            refine zr_iload (pc := 65) h dX1_weightOf_65 rfl ?_
            obtain ⟨q6, hf⟩ := zCk_s hf
            refine zr_iald (pc := 67) h (gd_X1_13 h0) q6 rfl dX1_weightOf_67 ?_
            refine zr_isub (pc := 68) h dX1_weightOf_68 ?_
            refine zr_topi h (fun x7 ex7 => ?_)
            have hf := zLt_s ex7 hf
            refine zr_istore (pc := 69) h dX1_weightOf_69 (by decide) rfl ?_
            refine zr_iincx (pc := 71) h dX1_weightOf_71 rfl (by decide) rfl (c := (1 : Int32)) (by decide) (fun x8 ex8 => ?_)
            have hf := zLt_s ex8 hf
            refine zr_goto (pc := 74) (tgt := 17) h dX1_weightOf_74 rfl ?_
            exact zr_weak h [true, true, false, true, true, true] (ih _ _ _ _ hf)

set_option maxRecDepth 100000 in
set_option maxHeartbeats 4000000 in
theorem cX1_weightOf_ok {l : Launch} {g : gG} {p0 : Nat} {a1 : Int32} {a2 : Int32} {a3 : Int32} {μ : gM} {r : Int32} (h0 : gk p0 = (0, 1)) (hf : fX1_weightOf p0 a1 a2 a3 μ = some r) : gMet l g yX1_weightOf cX1_weightOf 6 (some .int) 0 0 [.ref (g.1 + p0), .int a1, .int a2, .int a3] μ (some (.int r)) μ := by
  refine gMet_of (gIni [.ref (g.1 + p0), .int a1, .int a2, .int a3] ++ List.replicate 2 none) (by decide) (gIni_ok _ _) (Nat.le_of_ble_eq_true rfl) (fun K h => ?_)
  show K 0 [some (.ref (g.1 + p0)), some (.int a1), some (.int a2), some (.int a3), none, none] [] μ
  unfold fX1_weightOf at hf
  refine zr_iload_n (pc := 0) h dX1_weightOf_0 rfl rfl ?_
  refine zr_sipush (pc := 1) (v := (255 : Int32)) h dX1_weightOf_1 (by decide) ?_
  have hf := zIf_s hf
  refine zr_icmp_ne (pc := 4) (tgt := 11) h dX1_weightOf_4 rfl (fun b13 => ?_) (fun b13 => ?_)
  · have hf := hf.2 b13
    refine zr_iload_n (pc := 11) h dX1_weightOf_11 rfl rfl ?_
    refine zr_istore (pc := 12) h dX1_weightOf_12 (by decide) rfl ?_
    refine zr_iconst (pc := 14) (v := (0 : Int32)) h dX1_weightOf_14 (by decide) ?_
    refine zr_istore (pc := 15) h dX1_weightOf_15 (by decide) rfl ?_
    exact zr_weak h [true, true, false, true, true, true] (fX1_weightOf_l17_ok h h0 100000 _ _ _ _ hf)
  · have hf := hf.1 b13
    refine zr_sipush (pc := 7) (v := (255 : Int32)) h dX1_weightOf_7 (by decide) ?_
    exact zr_iret (pc := 10) h dX1_weightOf_10 (zRi hf) rfl

set_option maxRecDepth 100000 in
set_option maxHeartbeats 4000000 in
theorem cX1_patience_ok {l : Launch} {g : gG} {p0 : Nat} {a1 : Int32} {a2 : Int32} {μ : gM} {r : Int32} (h0 : gk p0 = (0, 1)) (hf : fX1_patience p0 a1 a2 μ = some r) : gMet l g yX1_patience cX1_patience 3 (some .int) 0 0 [.ref (g.1 + p0), .int a1, .int a2] μ (some (.int r)) μ := by
  refine gMet_of (gIni [.ref (g.1 + p0), .int a1, .int a2] ++ List.replicate 0 none) (by decide) (gIni_ok _ _) (Nat.le_of_ble_eq_true rfl) (fun K h => ?_)
  show K 0 [some (.ref (g.1 + p0)), some (.int a1), some (.int a2)] [] μ
  unfold fX1_patience at hf
  refine zr_iconst (pc := 0) (v := (3 : Int32)) h dX1_patience_0 (by decide) ?_
  refine zr_aload_n (pc := 1) h dX1_patience_1 rfl rfl ?_
  refine zf_X1_18 (pc := 2) h h0 dX1_patience_2 ?_
  refine zr_iload_n (pc := 5) h dX1_patience_5 rfl rfl ?_
  obtain ⟨q1, hf⟩ := zCk_s hf
  refine zr_iald (pc := 6) h (gd_X1_3 h0) q1 rfl dX1_patience_6 ?_
  refine zr_imul (pc := 7) h dX1_patience_7 ?_
  refine zr_iload_n (pc := 8) h dX1_patience_8 rfl rfl ?_
  refine zr_iadd (pc := 9) h dX1_patience_9 ?_
  exact zr_iret (pc := 10) h dX1_patience_10 (zRi hf) rfl

