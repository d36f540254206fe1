set_option maxRecDepth 100000 in
set_option maxHeartbeats 4000000 in
theorem cX10_runAllGroups_ok {l : Launch} {g : gG} {p0 : Nat} {μ : gM} {ν : gM} (h0 : gk (p0 + 14) = (0, 10)) (hf : fX10_runAllGroups p0 μ = some ν) : gMet l g yX10_runAllGroups cX10_runAllGroups 1 none 0 0 [.ref (g.1 + (p0 + 14))] μ none ν := by
  refine gMet_of (gIni [.ref (g.1 + (p0 + 14))] ++ List.replicate 0 none) (by decide) (gIni_ok _ _) (Nat.le_of_ble_eq_true rfl) (fun K h => ?_)
  show K 0 [some (.ref (g.1 + (p0 + 14)))] [] μ
  unfold fX10_runAllGroups at hf
  refine zr_aload_n (pc := 0) h dX10_runAllGroups_0 rfl rfl ?_
  refine zr_iconst (pc := 1) (v := (0 : Int32)) h dX10_runAllGroups_1 (by decide) ?_
  refine zp_X10_19 (pc := 2) h h0 dX10_runAllGroups_2 ?_
  refine zr_mu h (fun μ1 eμ1 => ?_)
  have hf := zLt_s eμ1 hf
  refine zr_aload_n (pc := 5) h dX10_runAllGroups_5 rfl rfl ?_
  refine zr_aload_n (pc := 6) h dX10_runAllGroups_6 rfl rfl ?_
  refine zf_X10_9 (pc := 7) h h0 dX10_runAllGroups_7 ?_
  refine zf_X10_23 (pc := 10) h gkc_4 dX10_runAllGroups_10 ?_
  refine zr_iconst (pc := 13) (v := (2 : Int32)) h dX10_runAllGroups_13 (by decide) ?_
  refine zr_iald (pc := 14) (q := 2) h gkc_5 rfl (by decide) dX10_runAllGroups_14 ?_
  refine zr_iconst (pc := 15) (v := (1 : Int32)) h dX10_runAllGroups_15 (by decide) ?_
  refine zr_isub (pc := 16) h dX10_runAllGroups_16 ?_
  refine zp_X10_29 (pc := 17) h h0 dX10_runAllGroups_17 ?_
  refine zr_mu h (fun μ2 eμ2 => ?_)
  have hf := zLt_s eμ2 hf
  exact zr_vret (pc := 20) h dX10_runAllGroups_20 rfl (zRv hf)

set_option maxRecDepth 100000 in
set_option maxHeartbeats 4000000 in
theorem cX10_runOneGroup_ok {l : Launch} {g : gG} {p0 : Nat} {a1 : Int32} {μ : gM} {ν : gM} (h0 : gk (p0 + 14) = (0, 10)) (hf : fX10_runOneGroup p0 a1 μ = some ν) : gMet l g yX10_runOneGroup cX10_runOneGroup 2 none 0 0 [.ref (g.1 + (p0 + 14)), .int a1] μ none ν := by
  refine gMet_of (gIni [.ref (g.1 + (p0 + 14)), .int a1] ++ List.replicate 0 none) (by decide) (gIni_ok _ _) (Nat.le_of_ble_eq_true rfl) (fun K h => ?_)
  show K 0 [some (.ref (g.1 + (p0 + 14))), some (.int a1)] [] μ
  unfold fX10_runOneGroup at hf
  refine zr_aload_n (pc := 0) h dX10_runOneGroup_0 rfl rfl ?_
  refine zr_iload_n (pc := 1) h dX10_runOneGroup_1 rfl rfl ?_
  refine zp_X10_19 (pc := 2) h h0 dX10_runOneGroup_2 ?_
  refine zr_mu h (fun μ1 eμ1 => ?_)
  have hf := zLt_s eμ1 hf
  refine zr_aload_n (pc := 5) h dX10_runOneGroup_5 rfl rfl ?_
  refine zr_iload_n (pc := 6) h dX10_runOneGroup_6 rfl rfl ?_
  refine zp_X10_29 (pc := 7) h h0 dX10_runOneGroup_7 ?_
  refine zr_mu h (fun μ2 eμ2 => ?_)
  have hf := zLt_s eμ2 hf
  exact zr_vret (pc := 10) h dX10_runOneGroup_10 rfl (zRv hf)

set_option maxRecDepth 100000 in
set_option maxHeartbeats 4000000 in
theorem fX10_quietTicks_l91_ok {l : Launch} {g : gG} {p0 : Nat} {k57 : Int32 → Int32 → gM → Option Int32} {r : Int32} {μe : gM} {K : gKt} (h : gR l g cX10_quietTicks RX10 6 (some .int) (gRm 1 60) (some (.int r)) μe K) (h0 : gk (p0 + 14) = (0, 10)) (hk57 : ∀ (y2 : Int32) (y3 : Int32), k57 y2 y3 μe = some r → K 57 [some (.ref (g.1 + (p0 + 14))), none, some (.int y2), some (.int y3), none, none] [] μe) : ∀ (n : Nat) (y2 : Int32) (y3 : Int32) (y4 : Int32) (y5 : Int32), fX10_quietTicks_l91 p0 k57 n y2 y3 y4 y5 μe = some r → K 91 [some (.ref (g.1 + (p0 + 14))), none, some (.int y2), some (.int y3), some (.int y4), some (.int y5)] [] μe := by
  intro n
  induction n with
  | zero =>
    intro y2 y3 y4 y5 hf
    cases (show (none : Option Int32) = some _ from hf)
  | succ n ih =>
    intro y2 y3 y4 y5 hf
    unfold fX10_quietTicks_l91 at hf
    refine zr_iload (pc := 91) h dX10_quietTicks_91 rfl ?_
    refine zr_bipush (pc := 93) (v := (6 : Int32)) h dX10_quietTicks_93 (by decide) ?_
    have hf := zIf_s hf
    refine zr_icmp_ge (pc := 95) (tgt := 135) h dX10_quietTicks_95 rfl (fun b10 => ?_) (fun b10 => ?_)
    · have hf := hf.1 b10
      refine zr_iincx (pc := 135) h dX10_quietTicks_135 rfl (by decide) rfl (c := (1 : Int32)) (by decide) (fun x4 ex4 => ?_)
      have hf := zLt_s ex4 hf
      refine zr_goto (pc := 138) (tgt := 57) h dX10_quietTicks_138 rfl ?_
      exact zr_weak h [true, false, true, true, false, false] (hk57 _ _ hf)
    · have hf := hf.2 b10
      refine zr_iload (pc := 98) h dX10_quietTicks_98 rfl ?_
      refine zr_iload (pc := 100) h dX10_quietTicks_100 rfl ?_
      refine zr_ishr (pc := 102) h dX10_quietTicks_102 ?_
      refine zr_iconst (pc := 103) (v := (1 : Int32)) h dX10_quietTicks_103 (by decide) ?_
      refine zr_iand (pc := 104) h dX10_quietTicks_104 ?_
      refine zr_iconst (pc := 105) (v := (1 : Int32)) h dX10_quietTicks_105 (by decide) ?_
      have hf := zIf_s hf
      refine zr_icmp_ne (pc := 106) (tgt := 129) h dX10_quietTicks_106 rfl (fun b9 => ?_) (fun b9 => ?_)
      · have hf := hf.2 b9
        refine zr_iincx (pc := 129) h dX10_quietTicks_129 rfl (by decide) rfl (c := (1 : Int32)) (by decide) (fun x5 ex5 => ?_)
        have hf := zLt_s ex5 hf
        refine zr_goto (pc := 132) (tgt := 91) h dX10_quietTicks_132 rfl ?_
        exact zr_weak h [true, false, true, true, true, true] (ih _ _ _ _ hf)
      · have hf := hf.1 b9
        refine zr_iload_n (pc := 109) h dX10_quietTicks_109 rfl rfl ?_
        refine zr_aload_n (pc := 110) h dX10_quietTicks_110 rfl rfl ?_
        refine zf_X10_15 (pc := 111) h h0 dX10_quietTicks_111 ?_
        refine zf_X10_112 (pc := 114) h (gd_X10_1 h0) dX10_quietTicks_114 ?_
        refine zr_iload_n (pc := 117) h dX10_quietTicks_117 rfl rfl ?_
        refine zr_bipush (pc := 118) (v := (6 : Int32)) h dX10_quietTicks_118 (by decide) ?_
        refine zr_imul (pc := 120) h dX10_quietTicks_120 ?_
        refine zr_iload (pc := 121) h dX10_quietTicks_121 rfl ?_
        refine zr_iadd (pc := 123) h dX10_quietTicks_123 ?_
        obtain ⟨q6, hf⟩ := zCk_s hf
        refine zr_iald (pc := 124) h (gd_X9_18 (gd_X10_1 h0)) q6 rfl dX10_quietTicks_124 ?_
        refine zr_mmin (pc := 125) h zw_1025 zw_921 zw_198 zmc_min (by decide) (Nat.le_of_ble_eq_true rfl) dX10_quietTicks_125 ?_
        refine zr_topi h (fun x7 ex7 => ?_)
        have hf := zLt_s ex7 hf
        refine zr_istore_n (pc := 128) h dX10_quietTicks_128 rfl (by decide) rfl ?_
        refine zr_iincx (pc := 129) h dX10_quietTicks_129 rfl (by decide) rfl (c := (1 : Int32)) (by decide) (fun x8 ex8 => ?_)
        have hf := zLt_s ex8 hf
        refine zr_goto (pc := 132) (tgt := 91) h dX10_quietTicks_132 rfl ?_
        exact zr_weak h [true, false, true, true, true, true] (ih _ _ _ _ hf)

set_option maxRecDepth 100000 in
set_option maxHeartbeats 4000000 in
theorem fX10_quietTicks_l57_ok {l : Launch} {g : gG} {p0 : Nat} {r : Int32} {μe : gM} {K : gKt} (h : gR l g cX10_quietTicks RX10 6 (some .int) (gRm 1 60) (some (.int r)) μe K) (h0 : gk (p0 + 14) = (0, 10)) : ∀ (n : Nat) (y2 : Int32) (y3 : Int32), fX10_quietTicks_l57 p0 n y2 y3 μe = some r → K 57 [some (.ref (g.1 + (p0 + 14))), none, some (.int y2), some (.int y3), none, none] [] μe := by
  intro n
  induction n with
  | zero =>
    intro y2 y3 hf
    cases (show (none : Option Int32) = some _ from hf)
  | succ n ih =>
    intro y2 y3 hf
    unfold fX10_quietTicks_l57 at hf
    refine zr_iload_n (pc := 57) h dX10_quietTicks_57 rfl rfl ?_
    refine zr_aload_n (pc := 58) h dX10_quietTicks_58 rfl rfl ?_
    refine zf_X10_29 (pc := 59) h h0 dX10_quietTicks_59 ?_
    have hf := zIf_s hf
    refine zr_icmp_gt (pc := 62) (tgt := 141) h dX10_quietTicks_62 rfl (fun b12 => ?_) (fun b12 => ?_)
    · have hf := hf.1 b12
      refine zr_iload_n (pc := 141) h dX10_quietTicks_141 rfl rfl ?_
      exact zr_iret (pc := 142) h dX10_quietTicks_142 (zRi hf) rfl
    · have hf := hf.2 b12
      refine zr_iload_n (pc := 65) h dX10_quietTicks_65 rfl rfl ?_
      have hf := zIf_s hf
      refine zr_if_le (pc := 66) (tgt := 141) h dX10_quietTicks_66 rfl (fun b11 => ?_) (fun b11 => ?_)
      · have hf := hf.1 b11
        refine zr_iload_n (pc := 141) h dX10_quietTicks_141 rfl rfl ?_
        exact zr_iret (pc := 142) h dX10_quietTicks_142 (zRi hf) rfl
      · have hf := hf.2 b11
        refine zr_aload_n (pc := 69) h dX10_quietTicks_69 rfl rfl ?_
        refine zf_X10_9 (pc := 70) h h0 dX10_quietTicks_70 ?_
        refine zf_X10_80 (pc := 73) h gkc_4 dX10_quietTicks_73 ?_
        refine zr_iload_n (pc := 76) h dX10_quietTicks_76 rfl rfl ?_
        obtain ⟨q2, hf⟩ := zCk_s hf
        refine zr_iald (pc := 77) h gkc_11 q2 rfl dX10_quietTicks_77 ?_
        refine zr_aload_n (pc := 78) h dX10_quietTicks_78 rfl rfl ?_
        refine zf_X10_15 (pc := 79) h h0 dX10_quietTicks_79 ?_
        refine zf_X10_77 (pc := 82) h (gd_X10_1 h0) dX10_quietTicks_82 ?_
        refine zr_iand (pc := 85) h dX10_quietTicks_85 ?_
        refine zr_topi h (fun x3 ex3 => ?_)
        have hf := zLt_s ex3 hf
        refine zr_istore (pc := 86) h dX10_quietTicks_86 (by decide) rfl ?_
        refine zr_iconst (pc := 88) (v := (0 : Int32)) h dX10_quietTicks_88 (by decide) ?_
        refine zr_istore (pc := 89) h dX10_quietTicks_89 (by decide) rfl ?_
        exact zr_weak h [true, false, true, true, true, true] (fX10_quietTicks_l91_ok h h0 ih 100000 _ _ _ _ hf)

set_option maxRecDepth 100000 in
set_option maxHeartbeats 4000000 in
theorem cX10_quietTicks_ok {l : Launch} {g : gG} {p0 : Nat} {a1 : Int32} {μ : gM} {r : Int32} (h0 : gk (p0 + 14) = (0, 10)) (hf : fX10_quietTicks p0 a1 μ = some r) : gMet l g yX10_quietTicks cX10_quietTicks 6 (some .int) 1 60 [.ref (g.1 + (p0 + 14)), .int a1] μ (some (.int r)) μ := by
  refine gMet_of (gIni [.ref (g.1 + (p0 + 14)), .int a1] ++ List.replicate 4 none) (by decide) (gIni_ok _ _) (Nat.le_of_ble_eq_true rfl) (fun K h => ?_)
  show K 0 [some (.ref (g.1 + (p0 + 14))), some (.int a1), none, none, none, none] [] μ
  unfold fX10_quietTicks at hf
  refine zr_iload_n (pc := 0) h dX10_quietTicks_0 rfl rfl ?_
  refine zr_istore_n (pc := 1) h dX10_quietTicks_1 rfl (by decide) rfl ?_
  refine zr_aload_n (pc := 2) h dX10_quietTicks_2 rfl rfl ?_
  refine zf_X10_15 (pc := 3) h h0 dX10_quietTicks_3 ?_
  refine zf_X10_167 (pc := 6) h (gd_X10_1 h0) dX10_quietTicks_6 ?_
  refine zr_aload_n (pc := 9) h dX10_quietTicks_9 rfl rfl ?_
  refine zf_X10_15 (pc := 10) h h0 dX10_quietTicks_10 ?_
  refine zf_X10_170 (pc := 13) h (gd_X10_1 h0) dX10_quietTicks_13 ?_
  refine zf_X10_174 (pc := 16) h (gd_X9_9 (gd_X10_1 h0)) dX10_quietTicks_16 ?_
  have hf := zIf_s hf
  refine zr_icmp_ge (pc := 19) (tgt := 52) h dX10_quietTicks_19 rfl (fun b16 => ?_) (fun b16 => ?_)
  · have hf := hf.1 b16
    refine zr_aload_n (pc := 52) h dX10_quietTicks_52 rfl rfl ?_
    refine zf_X10_19 (pc := 53) h h0 dX10_quietTicks_53 ?_
    refine zr_topi h (fun x1 ex1 => ?_)
    have hf := zLt_s ex1 hf
    refine zr_istore_n (pc := 56) h dX10_quietTicks_56 rfl (by decide) rfl ?_
    exact zr_weak h [true, false, true, true, false, false] (fX10_quietTicks_l57_ok h h0 100000 _ _ hf)
  · have hf := hf.2 b16
    refine zr_iload_n (pc := 22) h dX10_quietTicks_22 rfl rfl ?_
    refine zr_aload_n (pc := 23) h dX10_quietTicks_23 rfl rfl ?_
    refine zf_X10_15 (pc := 24) h h0 dX10_quietTicks_24 ?_
    refine zf_X10_170 (pc := 27) h (gd_X10_1 h0) dX10_quietTicks_27 ?_
    refine zr_aload_n (pc := 30) h dX10_quietTicks_30 rfl rfl ?_
    refine zf_X10_15 (pc := 31) h h0 dX10_quietTicks_31 ?_
    refine zf_X10_167 (pc := 34) h (gd_X10_1 h0) dX10_quietTicks_34 ?_
    obtain ⟨x13, ex13, hf⟩ := zBd_s hf
    refine zm_X10_179 (pc := 37) h (gd_X9_9 (gd_X10_1 h0)) ⟨by decide, by decide⟩ (cX5_at_ok (gd_X9_9 (gd_X10_1 h0)) ex13) rfl (Nat.le_of_ble_eq_true rfl) dX10_quietTicks_37 rfl ?_
    refine zr_aload_n (pc := 40) h dX10_quietTicks_40 rfl rfl ?_
    refine zf_X10_15 (pc := 41) h h0 dX10_quietTicks_41 ?_
    refine zf_X10_100 (pc := 44) h (gd_X10_1 h0) dX10_quietTicks_44 ?_
    refine zr_isub (pc := 47) h dX10_quietTicks_47 ?_
    refine zr_mmin (pc := 48) h zw_1025 zw_921 zw_198 zmc_min (by decide) (Nat.le_of_ble_eq_true rfl) dX10_quietTicks_48 ?_
    refine zr_topi h (fun x14 ex14 => ?_)
    have hf := zLt_s ex14 hf
    refine zr_istore_n (pc := 51) h dX10_quietTicks_51 rfl (by decide) rfl ?_
    refine zr_aload_n (pc := 52) h dX10_quietTicks_52 rfl rfl ?_
    refine zf_X10_19 (pc := 53) h h0 dX10_quietTicks_53 ?_
    refine zr_topi h (fun x15 ex15 => ?_)
    have hf := zLt_s ex15 hf
    refine zr_istore_n (pc := 56) h dX10_quietTicks_56 rfl (by decide) rfl ?_
    exact zr_weak h [true, false, true, true, false, false] (fX10_quietTicks_l57_ok h h0 100000 _ _ hf)

set_option maxRecDepth 100000 in
set_option maxHeartbeats 4000000 in
theorem fX10_wind_l21_ok {l : Launch} {g : gG} {p0 : Nat} {ν : gM} {K : gKt} (h : gR l g cX10_wind RX10 5 none (gRm 0 0) none ν K) (h0 : gk (p0 + 14) = (0, 10)) : ∀ (n : Nat) (y1 : Int32) (y2 : Int32) (y3 : Int32) (y4 : Int32) (μ : gM), fX10_wind_l21 p0 n y1 y2 y3 y4 μ = some ν → K 21 [some (.ref (g.1 + (p0 + 14))), some (.int y1), some (.int y2), some (.int y3), some (.int y4)] [] μ := by
  intro n
  induction n with
  | zero =>
    intro y1 y2 y3 y4 μ hf
    cases (show (none : Option gM) = some _ from hf)
  | succ n ih =>
    intro y1 y2 y3 y4 μ hf
    unfold fX10_wind_l21 at hf
    refine zr_iload (pc := 21) h dX10_wind_21 rfl ?_
    refine zr_bipush (pc := 23) (v := (6 : Int32)) h dX10_wind_23 (by decide) ?_
    have hf := zIf_s hf
    refine zr_icmp_ge (pc := 25) (tgt := 63) h dX10_wind_25 rfl (fun b10 => ?_) (fun b10 => ?_)
    · have hf := hf.1 b10
      exact zr_vret (pc := 63) h dX10_wind_63 rfl (zRv hf)
    · have hf := hf.2 b10
      refine zr_iload_n (pc := 28) h dX10_wind_28 rfl rfl ?_
      refine zr_iload (pc := 29) h dX10_wind_29 rfl ?_
      refine zr_ishr (pc := 31) h dX10_wind_31 ?_
      refine zr_iconst (pc := 32) (v := (1 : Int32)) h dX10_wind_32 (by decide) ?_
      refine zr_iand (pc := 33) h dX10_wind_33 ?_
      refine zr_iconst (pc := 34) (v := (1 : Int32)) h dX10_wind_34 (by decide) ?_
      have hf := zIf_s hf
      refine zr_icmp_ne (pc := 35) (tgt := 57) h dX10_wind_35 rfl (fun b9 => ?_) (fun b9 => ?_)
      · have hf := hf.2 b9
        refine zr_iincx (pc := 57) h dX10_wind_57 rfl (by decide) rfl (c := (1 : Int32)) (by decide) (fun x3 ex3 => ?_)
        have hf := zLt_s ex3 hf
        refine zr_goto (pc := 60) (tgt := 21) h dX10_wind_60 rfl ?_
        exact zr_weak h [true, true, true, true, true] (ih _ _ _ _ _ hf)
      · have hf := hf.1 b9
        refine zr_aload_n (pc := 38) h dX10_wind_38 rfl rfl ?_
        refine zf_X10_15 (pc := 39) h h0 dX10_wind_39 ?_
        refine zf_X10_112 (pc := 42) h (gd_X10_1 h0) dX10_wind_42 ?_
        refine zr_iload_n (pc := 45) h dX10_wind_45 rfl rfl ?_
        refine zr_bipush (pc := 46) (v := (6 : Int32)) h dX10_wind_46 (by decide) ?_
        refine zr_imul (pc := 48) h dX10_wind_48 ?_
        refine zr_iload (pc := 49) h dX10_wind_49 rfl ?_
        refine zr_iadd (pc := 51) h dX10_wind_51 ?_
        refine zr_topi h (fun x4 ex4 => ?_)
        have hf := zLt_s ex4 hf
        refine zr_dup2 (pc := 52) h dX10_wind_52 rfl rfl ?_
        obtain ⟨q5, hf⟩ := zCk_s hf
        refine zr_iald (pc := 53) h (gd_X9_18 (gd_X10_1 h0)) q5 rfl dX10_wind_53 ?_
        refine zr_iload_n (pc := 54) h dX10_wind_54 rfl rfl ?_
        refine zr_isub (pc := 55) h dX10_wind_55 ?_
        obtain ⟨q6, hf⟩ := zCk_s hf
        refine zr_iast (pc := 56) h (gd_X9_18 (gd_X10_1 h0)) q6 rfl dX10_wind_56 ?_
        refine zr_mu h (fun μ7 eμ7 => ?_)
        have hf := zLt_s eμ7 hf
        refine zr_iincx (pc := 57) h dX10_wind_57 rfl (by decide) rfl (c := (1 : Int32)) (by decide) (fun x8 ex8 => ?_)
        have hf := zLt_s ex8 hf
        refine zr_goto (pc := 60) (tgt := 21) h dX10_wind_60 rfl ?_
        exact zr_weak h [true, true, true, true, true] (ih _ _ _ _ _ hf)

set_option maxRecDepth 100000 in
set_option maxHeartbeats 4000000 in
theorem cX10_wind_ok {l : Launch} {g : gG} {p0 : Nat} {a1 : Int32} {a2 : Int32} {μ : gM} {ν : gM} (h0 : gk (p0 + 14) = (0, 10)) (hf : fX10_wind p0 a1 a2 μ = some ν) : gMet l g yX10_wind cX10_wind 5 none 0 0 [.ref (g.1 + (p0 + 14)), .int a1, .int a2] μ none ν := by
  refine gMet_of (gIni [.ref (g.1 + (p0 + 14)), .int a1, .int a2] ++ List.replicate 2 none) (by decide) (gIni_ok _ _) (Nat.le_of_ble_eq_true rfl) (fun K h => ?_)
  show K 0 [some (.ref (g.1 + (p0 + 14))), some (.int a1), some (.int a2), none, none] [] μ
  unfold fX10_wind at hf
  refine zr_aload_n (pc := 0) h dX10_wind_0 rfl rfl ?_
  refine zf_X10_9 (pc := 1) h h0 dX10_wind_1 ?_
  refine zf_X10_80 (pc := 4) h gkc_4 dX10_wind_4 ?_
  refine zr_iload_n (pc := 7) h dX10_wind_7 rfl rfl ?_
  obtain ⟨q1, hf⟩ := zCk_s hf
  refine zr_iald (pc := 8) h gkc_11 q1 rfl dX10_wind_8 ?_
  refine zr_aload_n (pc := 9) h dX10_wind_9 rfl rfl ?_
  refine zf_X10_15 (pc := 10) h h0 dX10_wind_10 ?_
  refine zf_X10_77 (pc := 13) h (gd_X10_1 h0) dX10_wind_13 ?_
  refine zr_iand (pc := 16) h dX10_wind_16 ?_
  refine zr_topi h (fun x2 ex2 => ?_)
  have hf := zLt_s ex2 hf
  refine zr_istore_n (pc := 17) h dX10_wind_17 rfl (by decide) rfl ?_
  refine zr_iconst (pc := 18) (v := (0 : Int32)) h dX10_wind_18 (by decide) ?_
  refine zr_istore (pc := 19) h dX10_wind_19 (by decide) rfl ?_
  exact zr_weak h [true, true, true, true, true] (fX10_wind_l21_ok h h0 100000 _ _ _ _ _ hf)

set_option maxRecDepth 100000 in
set_option maxHeartbeats 4000000 in
theorem fX10_tally_n37_ok {l : Launch} {g : gG} {p0 : Nat} {ν : gM} {K : gKt} (h : gR l g cX10_tally RX10 4 none (gRm 2 42) none ν K) (h0 : gk (p0 + 14) = (0, 10)) {y1 : Int32} {y2 : Int32} {z0 : Int32} {μ : gM} (hf : fX10_tally_n37 p0 y1 y2 z0 μ = some ν) : K 37 [some (.ref (g.1 + (p0 + 14))), some (.int y1), some (.int y2), none] [.int z0] μ := by
  unfold fX10_tally_n37 at hf
  refine zr_istore_n (pc := 37) h dX10_tally_37 rfl (by decide) rfl ?_
  refine zr_aload_n (pc := 38) h dX10_tally_38 rfl rfl ?_
  refine zf_X10_15 (pc := 39) h h0 dX10_tally_39 ?_
  refine zf_X10_227 (pc := 42) h (gd_X10_1 h0) dX10_tally_42 ?_
  refine zr_iload_n (pc := 45) h dX10_tally_45 rfl rfl ?_
  refine zr_dup2 (pc := 46) h dX10_tally_46 rfl rfl ?_
  obtain ⟨q8, hf⟩ := zCk_s hf
  refine zr_iald (pc := 47) h (gd_X9_12 (gd_X10_1 h0)) q8 rfl dX10_tally_47 ?_
  refine zr_iload_n (pc := 48) h dX10_tally_48 rfl rfl ?_
  have hf := zIf_s hf
  refine zr_if_eq (pc := 49) (tgt := 56) h dX10_tally_49 rfl (fun b13 => ?_) (fun b13 => ?_)
  · have hf := hf.1 b13
    refine zr_iconst (pc := 56) (v := (0 : Int32)) h dX10_tally_56 (by decide) ?_
    refine zr_iadd (pc := 57) h dX10_tally_57 ?_
    obtain ⟨q9, hf⟩ := zCk_s hf
    refine zr_iast (pc := 58) h (gd_X9_12 (gd_X10_1 h0)) q9 rfl dX10_tally_58 ?_
    refine zr_mu h (fun μ10 eμ10 => ?_)
    have hf := zLt_s eμ10 hf
    refine zr_goto (pc := 59) (tgt := 86) h dX10_tally_59 rfl ?_
    exact zr_vret (pc := 86) h dX10_tally_86 rfl (zRv hf)
  · have hf := hf.2 b13
    refine zr_iload_n (pc := 52) h dX10_tally_52 rfl rfl ?_
    refine zr_goto (pc := 53) (tgt := 57) h dX10_tally_53 rfl ?_
    refine zr_iadd (pc := 57) h dX10_tally_57 ?_
    obtain ⟨q11, hf⟩ := zCk_s hf
    refine zr_iast (pc := 58) h (gd_X9_12 (gd_X10_1 h0)) q11 rfl dX10_tally_58 ?_
    refine zr_mu h (fun μ12 eμ12 => ?_)
    have hf := zLt_s eμ12 hf
    refine zr_goto (pc := 59) (tgt := 86) h dX10_tally_59 rfl ?_
    exact zr_vret (pc := 86) h dX10_tally_86 rfl (zRv hf)

set_option maxRecDepth 100000 in
set_option maxHeartbeats 4000000 in
theorem cX10_tally_ok {l : Launch} {g : gG} {p0 : Nat} {a1 : Int32} {a2 : Int32} {μ : gM} {ν : gM} (h0 : gk (p0 + 14) = (0, 10)) (hf : fX10_tally p0 a1 a2 μ = some ν) : gMet l g yX10_tally cX10_tally 4 none 2 42 [.ref (g.1 + (p0 + 14)), .int a1, .int a2] μ none ν := by
  refine gMet_of (gIni [.ref (g.1 + (p0 + 14)), .int a1, .int a2] ++ List.replicate 1 none) (by decide) (gIni_ok _ _) (Nat.le_of_ble_eq_true rfl) (fun K h => ?_)
  show K 0 [some (.ref (g.1 + (p0 + 14))), some (.int a1), some (.int a2), none] [] μ
  unfold fX10_tally at hf
  refine zr_aload_n (pc := 0) h dX10_tally_0 rfl rfl ?_
  refine zf_X10_15 (pc := 1) h h0 dX10_tally_1 ?_
  refine zf_X10_93 (pc := 4) h (gd_X10_1 h0) dX10_tally_4 ?_
  refine zr_iload_n (pc := 7) h dX10_tally_7 rfl rfl ?_
  obtain ⟨q1, hf⟩ := zCk_s hf
  refine zr_iald (pc := 8) h (gd_X9_11 (gd_X10_1 h0)) q1 rfl dX10_tally_8 ?_
  have hf := zIf_s hf
  refine zr_if_ne (pc := 9) (tgt := 62) h dX10_tally_9 rfl (fun b15 => ?_) (fun b15 => ?_)
  · have hf := hf.2 b15
    refine zr_aload_n (pc := 62) h dX10_tally_62 rfl rfl ?_
    refine zf_X10_15 (pc := 63) h h0 dX10_tally_63 ?_
    refine zr_iload_n (pc := 66) h dX10_tally_66 rfl rfl ?_
    obtain ⟨x2, ex2, hf⟩ := zBd_s hf
    refine zm_X10_230 (pc := 67) h (gd_X10_1 h0) ⟨by decide, by decide⟩ (cX9_isDouble_ok (gd_X10_1 h0) ex2) rfl (Nat.le_of_ble_eq_true rfl) dX10_tally_67 rfl ?_
    have hf := zIf_s hf
    refine zr_if_eq (pc := 70) (tgt := 86) h dX10_tally_70 rfl (fun b6 => ?_) (fun b6 => ?_)
    · have hf := hf.1 b6
      exact zr_vret (pc := 86) h dX10_tally_86 rfl (zRv hf)
    · have hf := hf.2 b6
      refine zr_aload_n (pc := 73) h dX10_tally_73 rfl rfl ?_
      refine zf_X10_15 (pc := 74) h h0 dX10_tally_74 ?_
      refine zf_X10_234 (pc := 77) h (gd_X10_1 h0) dX10_tally_77 ?_
      refine zr_iload_n (pc := 80) h dX10_tally_80 rfl rfl ?_
      refine zr_dup2 (pc := 81) h dX10_tally_81 rfl rfl ?_
      obtain ⟨q3, hf⟩ := zCk_s hf
      refine zr_iald (pc := 82) h (gd_X9_13 (gd_X10_1 h0)) q3 rfl dX10_tally_82 ?_
      refine zr_iload_n (pc := 83) h dX10_tally_83 rfl rfl ?_
      refine zr_iadd (pc := 84) h dX10_tally_84 ?_
      obtain ⟨q4, hf⟩ := zCk_s hf
      refine zr_iast (pc := 85) h (gd_X9_13 (gd_X10_1 h0)) q4 rfl dX10_tally_85 ?_
      refine zr_mu h (fun μ5 eμ5 => ?_)
      have hf := zLt_s eμ5 hf
      exact zr_vret (pc := 86) h dX10_tally_86 rfl (zRv hf)
  · have hf := hf.1 b15
    refine zr_aload_n (pc := 12) h dX10_tally_12 rfl rfl ?_
    refine zf_X10_9 (pc := 13) h h0 dX10_tally_13 ?_
    refine zf_X10_80 (pc := 16) h gkc_4 dX10_tally_16 ?_
    refine zr_iload_n (pc := 19) h dX10_tally_19 rfl rfl ?_
    obtain ⟨q7, hf⟩ := zCk_s hf
    refine zr_iald (pc := 20) h gkc_11 q7 rfl dX10_tally_20 ?_
    refine zr_aload_n (pc := 21) h dX10_tally_21 rfl rfl ?_
    refine zf_X10_15 (pc := 22) h h0 dX10_tally_22 ?_
    refine zf_X10_77 (pc := 25) h (gd_X10_1 h0) dX10_tally_25 ?_
    refine zr_iand (pc := 28) h dX10_tally_28 ?_
    have hf := zIf_s hf
    refine zr_if_eq (pc := 29) (tgt := 36) h dX10_tally_29 rfl (fun b14 => ?_) (fun b14 => ?_)
    · have hf := hf.1 b14
      refine zr_iconst (pc := 36) (v := (0 : Int32)) h dX10_tally_36 (by decide) ?_
      exact zr_weak h [true, true, true, false] (fX10_tally_n37_ok h h0 hf)
    · have hf := hf.2 b14
      refine zr_iconst (pc := 32) (v := (1 : Int32)) h dX10_tally_32 (by decide) ?_
      refine zr_goto (pc := 33) (tgt := 37) h dX10_tally_33 rfl ?_
      exact zr_weak h [true, true, true, false] (fX10_tally_n37_ok h h0 hf)

set_option maxRecDepth 100000 in
set_option maxHeartbeats 4000000 in
theorem fX10_passQuietly_l5_ok {l : Launch} {g : gG} {p0 : Nat} {ν : gM} {K : gKt} (h : gR l g cX10_passQuietly RX10 3 none (gRm 3 65) none ν K) (h0 : gk (p0 + 14) = (0, 10)) : ∀ (n : Nat) (y1 : Int32) (y2 : Int32) (μ : gM), fX10_passQuietly_l5 p0 n y1 y2 μ = some ν → K 5 [some (.ref (g.1 + (p0 + 14))), some (.int y1), some (.int y2)] [] μ := by
  intro n
  induction n with
  | zero =>
    intro y1 y2 μ hf
    cases (show (none : Option gM) = some _ from hf)
  | succ n ih =>
    intro y1 y2 μ hf
    unfold fX10_passQuietly_l5 at hf
    refine zr_iload_n (pc := 5) h dX10_passQuietly_5 rfl rfl ?_
    refine zr_aload_n (pc := 6) h dX10_passQuietly_6 rfl rfl ?_
    refine zf_X10_29 (pc := 7) h h0 dX10_passQuietly_7 ?_
    have hf := zIf_s hf
    refine zr_icmp_gt (pc := 10) (tgt := 31) h dX10_passQuietly_10 rfl (fun b6 => ?_) (fun b6 => ?_)
    · have hf := hf.1 b6
      refine zr_aload_n (pc := 31) h dX10_passQuietly_31 rfl rfl ?_
      refine zf_X10_15 (pc := 32) h h0 dX10_passQuietly_32 ?_
      refine zr_dup (pc := 35) h dX10_passQuietly_35 rfl ?_
      refine zf_X10_100 (pc := 36) h (gd_X10_1 h0) dX10_passQuietly_36 ?_
      refine zr_iload_n (pc := 39) h dX10_passQuietly_39 rfl rfl ?_
      refine zr_iadd (pc := 40) h dX10_passQuietly_40 ?_
      refine zp_X10_100 (pc := 41) h (gd_X10_1 h0) dX10_passQuietly_41 ?_
      refine zr_mu h (fun μ2 eμ2 => ?_)
      have hf := zLt_s eμ2 hf
      exact zr_vret (pc := 44) h dX10_passQuietly_44 rfl (zRv hf)
    · have hf := hf.2 b6
      refine zr_aload_n (pc := 13) h dX10_passQuietly_13 rfl rfl ?_
      refine zr_iload_n (pc := 14) h dX10_passQuietly_14 rfl rfl ?_
      refine zr_iload_n (pc := 15) h dX10_passQuietly_15 rfl rfl ?_
      obtain ⟨μ3, eμ3, hf⟩ := zBd_s hf
      refine zm_X10_158 (pc := 16) h h0 ⟨by decide, by decide⟩ (cX10_wind_ok h0 eμ3) rfl (Nat.le_of_ble_eq_true rfl) dX10_passQuietly_16 rfl ?_
      refine zr_aload_n (pc := 19) h dX10_passQuietly_19 rfl rfl ?_
      refine zr_iload_n (pc := 20) h dX10_passQuietly_20 rfl rfl ?_
      refine zr_iload_n (pc := 21) h dX10_passQuietly_21 rfl rfl ?_
      obtain ⟨μ4, eμ4, hf⟩ := zBd_s hf
      refine zm_X10_164 (pc := 22) h h0 ⟨by decide, by decide⟩ (cX10_tally_ok h0 eμ4) rfl (Nat.le_of_ble_eq_true rfl) dX10_passQuietly_22 rfl ?_
      refine zr_iincx (pc := 25) h dX10_passQuietly_25 rfl (by decide) rfl (c := (1 : Int32)) (by decide) (fun x5 ex5 => ?_)
      have hf := zLt_s ex5 hf
      refine zr_goto (pc := 28) (tgt := 5) h dX10_passQuietly_28 rfl ?_
      exact zr_weak h [true, true, true] (ih _ _ _ hf)

set_option maxRecDepth 100000 in
set_option maxHeartbeats 4000000 in
theorem cX10_passQuietly_ok {l : Launch} {g : gG} {p0 : Nat} {a1 : Int32} {μ : gM} {ν : gM} (h0 : gk (p0 + 14) = (0, 10)) (hf : fX10_passQuietly p0 a1 μ = some ν) : gMet l g yX10_passQuietly cX10_passQuietly 3 none 3 65 [.ref (g.1 + (p0 + 14)), .int a1] μ none ν := by
  refine gMet_of (gIni [.ref (g.1 + (p0 + 14)), .int a1] ++ List.replicate 1 none) (by decide) (gIni_ok _ _) (Nat.le_of_ble_eq_true rfl) (fun K h => ?_)
  show K 0 [some (.ref (g.1 + (p0 + 14))), some (.int a1), none] [] μ
  unfold fX10_passQuietly at hf
  refine zr_aload_n (pc := 0) h dX10_passQuietly_0 rfl rfl ?_
  refine zf_X10_19 (pc := 1) h h0 dX10_passQuietly_1 ?_
  refine zr_topi h (fun x1 ex1 => ?_)
  have hf := zLt_s ex1 hf
  refine zr_istore_n (pc := 4) h dX10_passQuietly_4 rfl (by decide) rfl ?_
  exact zr_weak h [true, true, true] (fX10_passQuietly_l5_ok h h0 100000 _ _ _ hf)

set_option maxRecDepth 100000 in
set_option maxHeartbeats 4000000 in
theorem cX10_hold_ok {l : Launch} {g : gG} {p0 : Nat} {a1 : Int32} {a2 : Int32} {μ : gM} {ν : gM} (h0 : gk (p0 + 14) = (0, 10)) (hf : fX10_hold p0 a1 a2 μ = some ν) : gMet l g yX10_hold cX10_hold 4 none 1 25 [.ref (g.1 + (p0 + 14)), .int a1, .int a2] μ none ν := by
  refine gMet_of (gIni [.ref (g.1 + (p0 + 14)), .int a1, .int a2] ++ List.replicate 1 none) (by decide) (gIni_ok _ _) (Nat.le_of_ble_eq_true rfl) (fun K h => ?_)
  show K 0 [some (.ref (g.1 + (p0 + 14))), some (.int a1), some (.int a2), none] [] μ
  unfold fX10_hold at hf
  refine zr_iload_n (pc := 0) h dX10_hold_0 rfl rfl ?_
  refine zr_bipush (pc := 1) (v := (6 : Int32)) h dX10_hold_1 (by decide) ?_
  refine zr_imul (pc := 3) h dX10_hold_3 ?_
  refine zr_iload_n (pc := 4) h dX10_hold_4 rfl rfl ?_
  refine zr_iadd (pc := 5) h dX10_hold_5 ?_
  refine zr_topi h (fun x1 ex1 => ?_)
  have hf := zLt_s ex1 hf
  refine zr_istore_n (pc := 6) h dX10_hold_6 rfl (by decide) rfl ?_
  refine zr_aload_n (pc := 7) h dX10_hold_7 rfl rfl ?_
  refine zf_X10_15 (pc := 8) h h0 dX10_hold_8 ?_
  refine zf_X10_93 (pc := 11) h (gd_X10_1 h0) dX10_hold_11 ?_
  refine zr_iload_n (pc := 14) h dX10_hold_14 rfl rfl ?_
  refine zr_dup2 (pc := 15) h dX10_hold_15 rfl rfl ?_
  obtain ⟨q2, hf⟩ := zCk_s hf
  refine zr_iald (pc := 16) h (gd_X9_11 (gd_X10_1 h0)) q2 rfl dX10_hold_16 ?_
  refine zr_iconst (pc := 17) (v := (1 : Int32)) h dX10_hold_17 (by decide) ?_
  refine zr_iload_n (pc := 18) h dX10_hold_18 rfl rfl ?_
  refine zr_ishl (pc := 19) h dX10_hold_19 ?_
  refine zr_ior (pc := 20) h dX10_hold_20 ?_
  obtain ⟨q3, hf⟩ := zCk_s hf
  refine zr_iast (pc := 21) h (gd_X9_11 (gd_X10_1 h0)) q3 rfl dX10_hold_21 ?_
  refine zr_mu h (fun μ4 eμ4 => ?_)
  have hf := zLt_s eμ4 hf
  refine zr_aload_n (pc := 22) h dX10_hold_22 rfl rfl ?_
  refine zf_X10_15 (pc := 23) h h0 dX10_hold_23 ?_
  refine zf_X10_112 (pc := 26) h (gd_X10_1 h0) dX10_hold_26 ?_
  refine zr_iload_n (pc := 29) h dX10_hold_29 rfl rfl ?_
  refine zr_iconst (pc := 30) (v := (0 : Int32)) h dX10_hold_30 (by decide) ?_
  obtain ⟨q5, hf⟩ := zCk_s hf
  refine zr_iast (pc := 31) h (gd_X9_18 (gd_X10_1 h0)) q5 rfl dX10_hold_31 ?_
  refine zr_mu h (fun μ6 eμ6 => ?_)
  have hf := zLt_s eμ6 hf
  refine zr_aload_n (pc := 32) h dX10_hold_32 rfl rfl ?_
  refine zf_X10_15 (pc := 33) h h0 dX10_hold_33 ?_
  refine zf_X10_115 (pc := 36) h (gd_X10_1 h0) dX10_hold_36 ?_
  refine zr_iload_n (pc := 39) h dX10_hold_39 rfl rfl ?_
  refine zr_iconst (pc := 40) (v := (-1 : Int32)) h dX10_hold_40 (by decide) ?_
  obtain ⟨q7, hf⟩ := zCk_s hf
  refine zr_iast (pc := 41) h (gd_X9_19 (gd_X10_1 h0)) q7 rfl dX10_hold_41 ?_
  refine zr_mu h (fun μ8 eμ8 => ?_)
  have hf := zLt_s eμ8 hf
  refine zr_aload_n (pc := 42) h dX10_hold_42 rfl rfl ?_
  refine zf_X10_15 (pc := 43) h h0 dX10_hold_43 ?_
  refine zf_X10_134 (pc := 46) h (gd_X10_1 h0) dX10_hold_46 ?_
  refine zr_iload_n (pc := 49) h dX10_hold_49 rfl rfl ?_
  refine zr_dup2 (pc := 50) h dX10_hold_50 rfl rfl ?_
  obtain ⟨q9, hf⟩ := zCk_s hf
  refine zr_iald (pc := 51) h (gd_X9_14 (gd_X10_1 h0)) q9 rfl dX10_hold_51 ?_
  refine zr_iconst (pc := 52) (v := (1 : Int32)) h dX10_hold_52 (by decide) ?_
  refine zr_iadd (pc := 53) h dX10_hold_53 ?_
  obtain ⟨q10, hf⟩ := zCk_s hf
  refine zr_iast (pc := 54) h (gd_X9_14 (gd_X10_1 h0)) q10 rfl dX10_hold_54 ?_
  refine zr_mu h (fun μ11 eμ11 => ?_)
  have hf := zLt_s eμ11 hf
  refine zr_aload_n (pc := 55) h dX10_hold_55 rfl rfl ?_
  refine zr_dup (pc := 56) h dX10_hold_56 rfl ?_
  refine zf_X10_137 (pc := 57) h h0 dX10_hold_57 ?_
  refine zr_iconst (pc := 60) (v := (1 : Int32)) h dX10_hold_60 (by decide) ?_
  refine zr_iadd (pc := 61) h dX10_hold_61 ?_
  refine zp_X10_137 (pc := 62) h h0 dX10_hold_62 ?_
  refine zr_mu h (fun μ12 eμ12 => ?_)
  have hf := zLt_s eμ12 hf
  refine zr_aload_n (pc := 65) h dX10_hold_65 rfl rfl ?_
  refine zf_X10_15 (pc := 66) h h0 dX10_hold_66 ?_
  refine zf_X10_96 (pc := 69) h (gd_X10_1 h0) dX10_hold_69 ?_
  refine zr_aload_n (pc := 72) h dX10_hold_72 rfl rfl ?_
  refine zf_X10_15 (pc := 73) h h0 dX10_hold_73 ?_
  refine zf_X10_100 (pc := 76) h (gd_X10_1 h0) dX10_hold_76 ?_
  refine zr_iload_n (pc := 79) h dX10_hold_79 rfl rfl ?_
  refine zr_iload_n (pc := 80) h dX10_hold_80 rfl rfl ?_
  refine zr_iconst (pc := 81) (v := (0 : Int32)) h dX10_hold_81 (by decide) ?_
  obtain ⟨μ13, eμ13, hf⟩ := zBd_s hf
  refine zm_X10_103 (pc := 82) h (gd_X9_10 (gd_X10_1 h0)) ⟨by decide, by decide⟩ (cX0_add_ok (gd_X9_10 (gd_X10_1 h0)) eμ13) rfl (Nat.le_of_ble_eq_true rfl) dX10_hold_82 rfl ?_
  exact zr_vret (pc := 85) h dX10_hold_85 rfl (zRv hf)

set_option maxRecDepth 100000 in
set_option maxHeartbeats 4000000 in
theorem cX10_await_ok {l : Launch} {g : gG} {p0 : Nat} {a1 : Int32} {a2 : Int32} {μ : gM} {ν : gM} (h0 : gk (p0 + 14) = (0, 10)) (hf : fX10_await p0 a1 a2 μ = some ν) : gMet l g yX10_await cX10_await 4 none 1 22 [.ref (g.1 + (p0 + 14)), .int a1, .int a2] μ none ν := by
  refine gMet_of (gIni [.ref (g.1 + (p0 + 14)), .int a1, .int a2] ++ List.replicate 1 none) (by decide) (gIni_ok _ _) (Nat.le_of_ble_eq_true rfl) (fun K h => ?_)
  show K 0 [some (.ref (g.1 + (p0 + 14))), some (.int a1), some (.int a2), none] [] μ
  unfold fX10_await at hf
  refine zr_iload_n (pc := 0) h dX10_await_0 rfl rfl ?_
  refine zr_bipush (pc := 1) (v := (6 : Int32)) h dX10_await_1 (by decide) ?_
  refine zr_imul (pc := 3) h dX10_await_3 ?_
  refine zr_iload_n (pc := 4) h dX10_await_4 rfl rfl ?_
  refine zr_iadd (pc := 5) h dX10_await_5 ?_
  refine zr_topi h (fun x1 ex1 => ?_)
  have hf := zLt_s ex1 hf
  refine zr_istore_n (pc := 6) h dX10_await_6 rfl (by decide) rfl ?_
  refine zr_aload_n (pc := 7) h dX10_await_7 rfl rfl ?_
  refine zf_X10_15 (pc := 8) h h0 dX10_await_8 ?_
  refine zf_X10_112 (pc := 11) h (gd_X10_1 h0) dX10_await_11 ?_
  refine zr_iload_n (pc := 14) h dX10_await_14 rfl rfl ?_
  refine zr_aload_n (pc := 15) h dX10_await_15 rfl rfl ?_
  refine zf_X10_9 (pc := 16) h h0 dX10_await_16 ?_
  refine zr_iload_n (pc := 19) h dX10_await_19 rfl rfl ?_
  refine zr_aload_n (pc := 20) h dX10_await_20 rfl rfl ?_
  refine zf_X10_15 (pc := 21) h h0 dX10_await_21 ?_
  refine zf_X10_67 (pc := 24) h (gd_X10_1 h0) dX10_await_24 ?_
  refine zr_iload_n (pc := 27) h dX10_await_27 rfl rfl ?_
  obtain ⟨q2, hf⟩ := zCk_s hf
  refine zr_iald (pc := 28) h (gd_X9_17 (gd_X10_1 h0)) q2 rfl dX10_await_28 ?_
  obtain ⟨x3, ex3, hf⟩ := zBd_s hf
  refine zm_X10_140 (pc := 29) h gkc_4 ⟨by decide, by decide⟩ (cX1_patience_ok gkc_4 ex3) rfl (Nat.le_of_ble_eq_true rfl) dX10_await_29 rfl ?_
  obtain ⟨q4, hf⟩ := zCk_s hf
  refine zr_iast (pc := 32) h (gd_X9_18 (gd_X10_1 h0)) q4 rfl dX10_await_32 ?_
  refine zr_mu h (fun μ5 eμ5 => ?_)
  have hf := zLt_s eμ5 hf
  refine zr_aload_n (pc := 33) h dX10_await_33 rfl rfl ?_
  refine zf_X10_15 (pc := 34) h h0 dX10_await_34 ?_
  refine zf_X10_115 (pc := 37) h (gd_X10_1 h0) dX10_await_37 ?_
  refine zr_iload_n (pc := 40) h dX10_await_40 rfl rfl ?_
  refine zr_iconst (pc := 41) (v := (-1 : Int32)) h dX10_await_41 (by decide) ?_
  obtain ⟨q6, hf⟩ := zCk_s hf
  refine zr_iast (pc := 42) h (gd_X9_19 (gd_X10_1 h0)) q6 rfl dX10_await_42 ?_
  refine zr_mu h (fun μ7 eμ7 => ?_)
  have hf := zLt_s eμ7 hf
  exact zr_vret (pc := 43) h dX10_await_43 rfl (zRv hf)

set_option maxRecDepth 100000 in
set_option maxHeartbeats 4000000 in
theorem fX10_raise_l30_ok {l : Launch} {g : gG} {p0 : Nat} {k15 : Int32 → Int32 → gM → Option gM} {ν : gM} {K : gKt} (h : gR l g cX10_raise RX10 4 none (gRm 2 48) none ν K) (h0 : gk (p0 + 14) = (0, 10)) (hk15 : ∀ (y1 : Int32) (y2 : Int32) (ν1 : gM), k15 y1 y2 ν1 = some ν → K 15 [some (.ref (g.1 + (p0 + 14))), some (.int y1), some (.int y2), none] [] ν1) : ∀ (n : Nat) (y1 : Int32) (y2 : Int32) (y3 : Int32) (μ : gM), fX10_raise_l30 p0 k15 n y1 y2 y3 μ = some ν → K 30 [some (.ref (g.1 + (p0 + 14))), some (.int y1), some (.int y2), some (.int y3)] [] μ := by
  intro n
  induction n with
  | zero =>
    intro y1 y2 y3 μ hf
    cases (show (none : Option gM) = some _ from hf)
  | succ n ih =>
    intro y1 y2 y3 μ hf
    unfold fX10_raise_l30 at hf
    refine zr_iload_n (pc := 30) h dX10_raise_30 rfl rfl ?_
    refine zr_bipush (pc := 31) (v := (6 : Int32)) h dX10_raise_31 (by decide) ?_
    have hf := zIf_s hf
    refine zr_icmp_ge (pc := 33) (tgt := 98) h dX10_raise_33 rfl (fun b12 => ?_) (fun b12 => ?_)
    · have hf := hf.1 b12
      refine zr_iincx (pc := 98) h dX10_raise_98 rfl (by decide) rfl (c := (1 : Int32)) (by decide) (fun x2 ex2 => ?_)
      have hf := zLt_s ex2 hf
      refine zr_goto (pc := 101) (tgt := 15) h dX10_raise_101 rfl ?_
      exact zr_weak h [true, true, true, false] (hk15 _ _ _ hf)
    · have hf := hf.2 b12
      refine zr_aload_n (pc := 36) h dX10_raise_36 rfl rfl ?_
      refine zf_X10_9 (pc := 37) h h0 dX10_raise_37 ?_
      refine zf_X10_80 (pc := 40) h gkc_4 dX10_raise_40 ?_
      refine zr_iload_n (pc := 43) h dX10_raise_43 rfl rfl ?_
      obtain ⟨q3, hf⟩ := zCk_s hf
      refine zr_iald (pc := 44) h gkc_11 q3 rfl dX10_raise_44 ?_
      refine zr_iload_n (pc := 45) h dX10_raise_45 rfl rfl ?_
      refine zr_iand (pc := 46) h dX10_raise_46 ?_
      refine zr_iconst (pc := 47) (v := (1 : Int32)) h dX10_raise_47 (by decide) ?_
      refine zr_iload_n (pc := 48) h dX10_raise_48 rfl rfl ?_
      refine zr_ishl (pc := 49) h dX10_raise_49 ?_
      refine zr_iand (pc := 50) h dX10_raise_50 ?_
      have hf := zIf_s hf
      refine zr_if_ne (pc := 51) (tgt := 57) h dX10_raise_51 rfl (fun b11 => ?_) (fun b11 => ?_)
      · have hf := hf.2 b11
        refine zr_aload_n (pc := 57) h dX10_raise_57 rfl rfl ?_
        refine zf_X10_15 (pc := 58) h h0 dX10_raise_58 ?_
        refine zf_X10_64 (pc := 61) h (gd_X10_1 h0) dX10_raise_61 ?_
        refine zr_iload_n (pc := 64) h dX10_raise_64 rfl rfl ?_
        refine zr_bipush (pc := 65) (v := (6 : Int32)) h dX10_raise_65 (by decide) ?_
        refine zr_imul (pc := 67) h dX10_raise_67 ?_
        refine zr_iload_n (pc := 68) h dX10_raise_68 rfl rfl ?_
        refine zr_iadd (pc := 69) h dX10_raise_69 ?_
        obtain ⟨q4, hf⟩ := zCk_s hf
        refine zr_iald (pc := 70) h (gd_X9_16 (gd_X10_1 h0)) q4 rfl dX10_raise_70 ?_
        refine zr_sipush (pc := 71) (v := (255 : Int32)) h dX10_raise_71 (by decide) ?_
        have hf := zIf_s hf
        refine zr_icmp_ne (pc := 74) (tgt := 86) h dX10_raise_74 rfl (fun b9 => ?_) (fun b9 => ?_)
        · have hf := hf.2 b9
          refine zr_aload_n (pc := 86) h dX10_raise_86 rfl rfl ?_
          refine zr_iload_n (pc := 87) h dX10_raise_87 rfl rfl ?_
          refine zr_iload_n (pc := 88) h dX10_raise_88 rfl rfl ?_
          obtain ⟨μ5, eμ5, hf⟩ := zBd_s hf
          refine zm_X10_87 (pc := 89) h h0 ⟨by decide, by decide⟩ (cX10_await_ok h0 eμ5) rfl (Nat.le_of_ble_eq_true rfl) dX10_raise_89 rfl ?_
          refine zr_iincx (pc := 92) h dX10_raise_92 rfl (by decide) rfl (c := (1 : Int32)) (by decide) (fun x6 ex6 => ?_)
          have hf := zLt_s ex6 hf
          refine zr_goto (pc := 95) (tgt := 30) h dX10_raise_95 rfl ?_
          exact zr_weak h [true, true, true, true] (ih _ _ _ _ hf)
        · have hf := hf.1 b9
          refine zr_aload_n (pc := 77) h dX10_raise_77 rfl rfl ?_
          refine zr_iload_n (pc := 78) h dX10_raise_78 rfl rfl ?_
          refine zr_iload_n (pc := 79) h dX10_raise_79 rfl rfl ?_
          obtain ⟨μ7, eμ7, hf⟩ := zBd_s hf
          refine zm_X10_83 (pc := 80) h h0 ⟨by decide, by decide⟩ (cX10_hold_ok h0 eμ7) rfl (Nat.le_of_ble_eq_true rfl) dX10_raise_80 rfl ?_
          refine zr_goto (pc := 83) (tgt := 92) h dX10_raise_83 rfl ?_
          refine zr_iincx (pc := 92) h dX10_raise_92 rfl (by decide) rfl (c := (1 : Int32)) (by decide) (fun x8 ex8 => ?_)
          have hf := zLt_s ex8 hf
          refine zr_goto (pc := 95) (tgt := 30) h dX10_raise_95 rfl ?_
          exact zr_weak h [true, true, true, true] (ih _ _ _ _ hf)
      · have hf := hf.1 b11
        refine zr_goto (pc := 54) (tgt := 92) h dX10_raise_54 rfl ?_
        refine zr_iincx (pc := 92) h dX10_raise_92 rfl (by decide) rfl (c := (1 : Int32)) (by decide) (fun x10 ex10 => ?_)
        have hf := zLt_s ex10 hf
        refine zr_goto (pc := 95) (tgt := 30) h dX10_raise_95 rfl ?_
        exact zr_weak h [true, true, true, true] (ih _ _ _ _ hf)

set_option maxRecDepth 100000 in
set_option maxHeartbeats 4000000 in
theorem fX10_raise_l15_ok {l : Launch} {g : gG} {p0 : Nat} {ν : gM} {K : gKt} (h : gR l g cX10_raise RX10 4 none (gRm 2 48) none ν K) (h0 : gk (p0 + 14) = (0, 10)) : ∀ (n : Nat) (y1 : Int32) (y2 : Int32) (μ : gM), fX10_raise_l15 p0 n y1 y2 μ = some ν → K 15 [some (.ref (g.1 + (p0 + 14))), some (.int y1), some (.int y2), none] [] μ := by
  intro n
  induction n with
  | zero =>
    intro y1 y2 μ hf
    cases (show (none : Option gM) = some _ from hf)
  | succ n ih =>
    intro y1 y2 μ hf
    unfold fX10_raise_l15 at hf
    refine zr_iload_n (pc := 15) h dX10_raise_15 rfl rfl ?_
    refine zr_aload_n (pc := 16) h dX10_raise_16 rfl rfl ?_
    refine zf_X10_9 (pc := 17) h h0 dX10_raise_17 ?_
    refine zf_X10_23 (pc := 20) h gkc_4 dX10_raise_20 ?_
    refine zr_iconst (pc := 23) (v := (2 : Int32)) h dX10_raise_23 (by decide) ?_
    refine zr_iald (pc := 24) (q := 2) h gkc_5 rfl (by decide) dX10_raise_24 ?_
    have hf := zIf_s hf
    refine zr_icmp_ge (pc := 25) (tgt := 104) h dX10_raise_25 rfl (fun b13 => ?_) (fun b13 => ?_)
    · have hf := hf.1 b13
      exact zr_vret (pc := 104) h dX10_raise_104 rfl (zRv hf)
    · have hf := hf.2 b13
      refine zr_iconst (pc := 28) (v := (0 : Int32)) h dX10_raise_28 (by decide) ?_
      refine zr_istore_n (pc := 29) h dX10_raise_29 rfl (by decide) rfl ?_
      exact zr_weak h [true, true, true, true] (fX10_raise_l30_ok h h0 ih 100000 _ _ _ _ hf)

set_option maxRecDepth 100000 in
set_option maxHeartbeats 4000000 in
theorem cX10_raise_ok {l : Launch} {g : gG} {p0 : Nat} {a1 : Int32} {μ : gM} {ν : gM} (h0 : gk (p0 + 14) = (0, 10)) (hf : fX10_raise p0 a1 μ = some ν) : gMet l g yX10_raise cX10_raise 4 none 2 48 [.ref (g.1 + (p0 + 14)), .int a1] μ none ν := by
  refine gMet_of (gIni [.ref (g.1 + (p0 + 14)), .int a1] ++ List.replicate 2 none) (by decide) (gIni_ok _ _) (Nat.le_of_ble_eq_true rfl) (fun K h => ?_)
  show K 0 [some (.ref (g.1 + (p0 + 14))), some (.int a1), none, none] [] μ
  unfold fX10_raise at hf
  refine zr_aload_n (pc := 0) h dX10_raise_0 rfl rfl ?_
  refine zf_X10_15 (pc := 1) h h0 dX10_raise_1 ?_
  refine zr_dup (pc := 4) h dX10_raise_4 rfl ?_
  refine zf_X10_77 (pc := 5) h (gd_X10_1 h0) dX10_raise_5 ?_
  refine zr_iload_n (pc := 8) h dX10_raise_8 rfl rfl ?_
  refine zr_ior (pc := 9) h dX10_raise_9 ?_
  refine zp_X10_77 (pc := 10) h (gd_X10_1 h0) dX10_raise_10 ?_
  refine zr_mu h (fun μ1 eμ1 => ?_)
  have hf := zLt_s eμ1 hf
  refine zr_iconst (pc := 13) (v := (0 : Int32)) h dX10_raise_13 (by decide) ?_
  refine zr_istore_n (pc := 14) h dX10_raise_14 rfl (by decide) rfl ?_
  exact zr_weak h [true, true, true, false] (fX10_raise_l15_ok h h0 100000 _ _ _ hf)

set_option maxRecDepth 100000 in
set_option maxHeartbeats 4000000 in
theorem fX10_sayFarewell_l55_ok {l : Launch} {g : gG} {p0 : Nat} {ν : gM} {K : gKt} (h : gR l g cX10_sayFarewell RX10 6 none (gRm 1 60) none ν K) (h0 : gk (p0 + 14) = (0, 10)) : ∀ (n : Nat) (y1 : Int32) (y3 : Int32) (y4 : Int32) (μ : gM), fX10_sayFarewell_l55 p0 n y1 y3 y4 μ = some ν → K 55 [some (.ref (g.1 + (p0 + 14))), some (.int y1), none, some (.int y3), some (.int y4), none] [] μ := by
  intro n
  induction n with
  | zero =>
    intro y1 y3 y4 μ hf
    cases (show (none : Option gM) = some _ from hf)
  | succ n ih =>
    intro y1 y3 y4 μ hf
    unfold fX10_sayFarewell_l55 at hf
    refine zr_iload (pc := 55) h dX10_sayFarewell_55 rfl ?_
    refine zr_bipush (pc := 57) (v := (6 : Int32)) h dX10_sayFarewell_57 (by decide) ?_
    have hf := zIf_s hf
    refine zr_icmp_ge (pc := 59) (tgt := 124) h dX10_sayFarewell_59 rfl (fun b14 => ?_) (fun b14 => ?_)
    · have hf := hf.1 b14
      exact zr_vret (pc := 124) h dX10_sayFarewell_124 rfl (zRv hf)
    · have hf := hf.2 b14
      refine zr_iload_n (pc := 62) h dX10_sayFarewell_62 rfl rfl ?_
      refine zr_bipush (pc := 63) (v := (6 : Int32)) h dX10_sayFarewell_63 (by decide) ?_
      refine zr_imul (pc := 65) h dX10_sayFarewell_65 ?_
      refine zr_iload (pc := 66) h dX10_sayFarewell_66 rfl ?_
      refine zr_iadd (pc := 68) h dX10_sayFarewell_68 ?_
      refine zr_topi h (fun x6 ex6 => ?_)
      have hf := zLt_s ex6 hf
      refine zr_istore (pc := 69) h dX10_sayFarewell_69 (by decide) rfl ?_
      refine zr_iload_n (pc := 71) h dX10_sayFarewell_71 rfl rfl ?_
      refine zr_iload (pc := 72) h dX10_sayFarewell_72 rfl ?_
      refine zr_ishr (pc := 74) h dX10_sayFarewell_74 ?_
      refine zr_iconst (pc := 75) (v := (1 : Int32)) h dX10_sayFarewell_75 (by decide) ?_
      refine zr_iand (pc := 76) h dX10_sayFarewell_76 ?_
      refine zr_iconst (pc := 77) (v := (1 : Int32)) h dX10_sayFarewell_77 (by decide) ?_
      have hf := zIf_s hf
      refine zr_icmp_ne (pc := 78) (tgt := 118) h dX10_sayFarewell_78 rfl (fun b13 => ?_) (fun b13 => ?_)
      · have hf := hf.2 b13
        refine zr_iincx (pc := 118) h dX10_sayFarewell_118 rfl (by decide) rfl (c := (1 : Int32)) (by decide) (fun x7 ex7 => ?_)
        have hf := zLt_s ex7 hf
        refine zr_goto (pc := 121) (tgt := 55) h dX10_sayFarewell_121 rfl ?_
        exact zr_weak h [true, true, false, true, true, false] (ih _ _ _ _ hf)
      · have hf := hf.1 b13
        refine zr_aload_n (pc := 81) h dX10_sayFarewell_81 rfl rfl ?_
        refine zf_X10_15 (pc := 82) h h0 dX10_sayFarewell_82 ?_
        refine zf_X10_112 (pc := 85) h (gd_X10_1 h0) dX10_sayFarewell_85 ?_
        refine zr_iload (pc := 88) h dX10_sayFarewell_88 rfl ?_
        refine zr_aload_n (pc := 90) h dX10_sayFarewell_90 rfl rfl ?_
        refine zf_X10_15 (pc := 91) h h0 dX10_sayFarewell_91 ?_
        refine zf_X10_112 (pc := 94) h (gd_X10_1 h0) dX10_sayFarewell_94 ?_
        refine zr_iload (pc := 97) h dX10_sayFarewell_97 rfl ?_
        obtain ⟨q8, hf⟩ := zCk_s hf
        refine zr_iald (pc := 99) h (gd_X9_18 (gd_X10_1 h0)) q8 rfl dX10_sayFarewell_99 ?_
        refine zr_aload_n (pc := 100) h dX10_sayFarewell_100 rfl rfl ?_
        refine zf_X10_15 (pc := 101) h h0 dX10_sayFarewell_101 ?_
        refine zf_X10_67 (pc := 104) h (gd_X10_1 h0) dX10_sayFarewell_104 ?_
        refine zr_iload (pc := 107) h dX10_sayFarewell_107 rfl ?_
        obtain ⟨q9, hf⟩ := zCk_s hf
        refine zr_iald (pc := 109) h (gd_X9_17 (gd_X10_1 h0)) q9 rfl dX10_sayFarewell_109 ?_
        refine zr_iconst (pc := 110) (v := (1 : Int32)) h dX10_sayFarewell_110 (by decide) ?_
        refine zr_mmax (pc := 111) h zw_1060 zw_1061 zw_198 zmc_max (by decide) (Nat.le_of_ble_eq_true rfl) dX10_sayFarewell_111 ?_
        refine zr_mmin (pc := 114) h zw_1025 zw_921 zw_198 zmc_min (by decide) (Nat.le_of_ble_eq_true rfl) dX10_sayFarewell_114 ?_
        obtain ⟨q10, hf⟩ := zCk_s hf
        refine zr_iast (pc := 117) h (gd_X9_18 (gd_X10_1 h0)) q10 rfl dX10_sayFarewell_117 ?_
        refine zr_mu h (fun μ11 eμ11 => ?_)
        have hf := zLt_s eμ11 hf
        refine zr_iincx (pc := 118) h dX10_sayFarewell_118 rfl (by decide) rfl (c := (1 : Int32)) (by decide) (fun x12 ex12 => ?_)
        have hf := zLt_s ex12 hf
        refine zr_goto (pc := 121) (tgt := 55) h dX10_sayFarewell_121 rfl ?_
        exact zr_weak h [true, true, false, true, true, false] (ih _ _ _ _ hf)

set_option maxRecDepth 100000 in
set_option maxHeartbeats 4000000 in
theorem cX10_sayFarewell_ok {l : Launch} {g : gG} {p0 : Nat} {a1 : Int32} {a2 : Int32} {μ : gM} {ν : gM} (h0 : gk (p0 + 14) = (0, 10)) (hf : fX10_sayFarewell p0 a1 a2 μ = some ν) : gMet l g yX10_sayFarewell cX10_sayFarewell 6 none 1 60 [.ref (g.1 + (p0 + 14)), .int a1, .int a2] μ none ν := by
  refine gMet_of (gIni [.ref (g.1 + (p0 + 14)), .int a1, .int a2] ++ List.replicate 3 none) (by decide) (gIni_ok _ _) (Nat.le_of_ble_eq_true rfl) (fun K h => ?_)
  show K 0 [some (.ref (g.1 + (p0 + 14))), some (.int a1), some (.int a2), none, none, none] [] μ
  unfold fX10_sayFarewell at hf
  refine zr_aload_n (pc := 0) h dX10_sayFarewell_0 rfl rfl ?_
  refine zf_X10_15 (pc := 1) h h0 dX10_sayFarewell_1 ?_
  refine zr_dup (pc := 4) h dX10_sayFarewell_4 rfl ?_
  refine zf_X10_118 (pc := 5) h (gd_X10_1 h0) dX10_sayFarewell_5 ?_
  refine zr_iconst (pc := 8) (v := (1 : Int32)) h dX10_sayFarewell_8 (by decide) ?_
  refine zr_iadd (pc := 9) h dX10_sayFarewell_9 ?_
  refine zp_X10_118 (pc := 10) h (gd_X10_1 h0) dX10_sayFarewell_10 ?_
  refine zr_mu h (fun μ1 eμ1 => ?_)
  have hf := zLt_s eμ1 hf
  refine zr_aload_n (pc := 13) h dX10_sayFarewell_13 rfl rfl ?_
  refine zf_X10_9 (pc := 14) h h0 dX10_sayFarewell_14 ?_
  refine zf_X10_80 (pc := 17) h gkc_4 dX10_sayFarewell_17 ?_
  refine zr_iload_n (pc := 20) h dX10_sayFarewell_20 rfl rfl ?_
  obtain ⟨q2, hf⟩ := zCk_s hf
  refine zr_iald (pc := 21) h gkc_11 q2 rfl dX10_sayFarewell_21 ?_
  refine zr_aload_n (pc := 22) h dX10_sayFarewell_22 rfl rfl ?_
  refine zf_X10_15 (pc := 23) h h0 dX10_sayFarewell_23 ?_
  refine zf_X10_77 (pc := 26) h (gd_X10_1 h0) dX10_sayFarewell_26 ?_
  refine zr_iand (pc := 29) h dX10_sayFarewell_29 ?_
  refine zr_aload_n (pc := 30) h dX10_sayFarewell_30 rfl rfl ?_
  refine zf_X10_15 (pc := 31) h h0 dX10_sayFarewell_31 ?_
  refine zr_iload_n (pc := 34) h dX10_sayFarewell_34 rfl rfl ?_
  obtain ⟨x3, ex3, hf⟩ := zBd_s hf
  refine zm_X10_121 (pc := 35) h (gd_X10_1 h0) ⟨by decide, by decide⟩ (cX9_beside_ok (gd_X10_1 h0) ex3) rfl (Nat.le_of_ble_eq_true rfl) dX10_sayFarewell_35 rfl ?_
  refine zr_iand (pc := 38) h dX10_sayFarewell_38 ?_
  refine zr_aload_n (pc := 39) h dX10_sayFarewell_39 rfl rfl ?_
  refine zf_X10_15 (pc := 40) h h0 dX10_sayFarewell_40 ?_
  refine zf_X10_93 (pc := 43) h (gd_X10_1 h0) dX10_sayFarewell_43 ?_
  refine zr_iload_n (pc := 46) h dX10_sayFarewell_46 rfl rfl ?_
  obtain ⟨q4, hf⟩ := zCk_s hf
  refine zr_iald (pc := 47) h (gd_X9_11 (gd_X10_1 h0)) q4 rfl dX10_sayFarewell_47 ?_
  refine zr_iconst (pc := 48) (v := (-1 : Int32)) h dX10_sayFarewell_48 (by decide) ?_
  refine zr_ixor (pc := 49) h dX10_sayFarewell_49 ?_
  refine zr_iand (pc := 50) h dX10_sayFarewell_50 ?_
  refine zr_topi h (fun x5 ex5 => ?_)
  have hf := zLt_s ex5 hf
  refine zr_istore_n (pc := 51) h dX10_sayFarewell_51 rfl (by decide) rfl ?_
  refine zr_iconst (pc := 52) (v := (0 : Int32)) h dX10_sayFarewell_52 (by decide) ?_
  refine zr_istore (pc := 53) h dX10_sayFarewell_53 (by decide) rfl ?_
  exact zr_weak h [true, true, false, true, true, false] (fX10_sayFarewell_l55_ok h h0 100000 _ _ _ _ hf)

set_option maxRecDepth 100000 in
set_option maxHeartbeats 4000000 in
theorem fX10_lower_n102_ok {l : Launch} {g : gG} {p0 : Nat} {k22 : Int32 → Int32 → Int32 → Int32 → gM → Option (Int32 × gM)} {r : Int32} {ν : gM} {K : gKt} (h : gR l g cX10_lower RX10 5 (some .int) (gRm 2 85) (some (.int r)) ν K) (h0 : gk (p0 + 14) = (0, 10)) (hk22 : ∀ (y1 : Int32) (y2 : Int32) (y3 : Int32) (y4 : Int32) (ν1 : gM), k22 y1 y2 y3 y4 ν1 = some (r, ν) → K 22 [some (.ref (g.1 + (p0 + 14))), some (.int y1), some (.int y2), some (.int y3), some (.int y4)] [] ν1) {y1 : Int32} {y2 : Int32} {y3 : Int32} {y4 : Int32} {μ : gM} (hf : fX10_lower_n102 p0 k22 y1 y2 y3 y4 μ = some (r, ν)) : K 102 [some (.ref (g.1 + (p0 + 14))), some (.int y1), some (.int y2), some (.int y3), some (.int y4)] [] μ := by
  unfold fX10_lower_n102 at hf
  refine zr_aload_n (pc := 102) h dX10_lower_102 rfl rfl ?_
  refine zf_X10_15 (pc := 103) h h0 dX10_lower_103 ?_
  refine zf_X10_112 (pc := 106) h (gd_X10_1 h0) dX10_lower_106 ?_
  refine zr_iload (pc := 109) h dX10_lower_109 rfl ?_
  refine zr_bipush (pc := 111) (v := (6 : Int32)) h dX10_lower_111 (by decide) ?_
  refine zr_imul (pc := 113) h dX10_lower_113 ?_
  refine zr_iload_n (pc := 114) h dX10_lower_114 rfl rfl ?_
  refine zr_iadd (pc := 115) h dX10_lower_115 ?_
  refine zr_iconst (pc := 116) (v := (0 : Int32)) h dX10_lower_116 (by decide) ?_
  obtain ⟨q3, hf⟩ := zCk_s hf
  refine zr_iast (pc := 117) h (gd_X9_18 (gd_X10_1 h0)) q3 rfl dX10_lower_117 ?_
  refine zr_mu h (fun μ4 eμ4 => ?_)
  have hf := zLt_s eμ4 hf
  refine zr_aload_n (pc := 118) h dX10_lower_118 rfl rfl ?_
  refine zf_X10_15 (pc := 119) h h0 dX10_lower_119 ?_
  refine zf_X10_115 (pc := 122) h (gd_X10_1 h0) dX10_lower_122 ?_
  refine zr_iload (pc := 125) h dX10_lower_125 rfl ?_
  refine zr_bipush (pc := 127) (v := (6 : Int32)) h dX10_lower_127 (by decide) ?_
  refine zr_imul (pc := 129) h dX10_lower_129 ?_
  refine zr_iload_n (pc := 130) h dX10_lower_130 rfl rfl ?_
  refine zr_iadd (pc := 131) h dX10_lower_131 ?_
  refine zr_iconst (pc := 132) (v := (-1 : Int32)) h dX10_lower_132 (by decide) ?_
  obtain ⟨q5, hf⟩ := zCk_s hf
  refine zr_iast (pc := 133) h (gd_X9_19 (gd_X10_1 h0)) q5 rfl dX10_lower_133 ?_
  refine zr_mu h (fun μ6 eμ6 => ?_)
  have hf := zLt_s eμ6 hf
  refine zr_iincx (pc := 134) h dX10_lower_134 rfl (by decide) rfl (c := (1 : Int32)) (by decide) (fun x7 ex7 => ?_)
  have hf := zLt_s ex7 hf
  refine zr_goto (pc := 137) (tgt := 22) h dX10_lower_137 rfl ?_
  exact zr_weak h [true, true, true, true, true] (hk22 _ _ _ _ _ hf)

set_option maxRecDepth 100000 in
set_option maxHeartbeats 4000000 in
theorem fX10_lower_l22_ok {l : Launch} {g : gG} {p0 : Nat} {r : Int32} {ν : gM} {K : gKt} (h : gR l g cX10_lower RX10 5 (some .int) (gRm 2 85) (some (.int r)) ν K) (h0 : gk (p0 + 14) = (0, 10)) : ∀ (n : Nat) (y1 : Int32) (y2 : Int32) (y3 : Int32) (y4 : Int32) (μ : gM), fX10_lower_l22 p0 n y1 y2 y3 y4 μ = some (r, ν) → K 22 [some (.ref (g.1 + (p0 + 14))), some (.int y1), some (.int y2), some (.int y3), some (.int y4)] [] μ := by
  intro n
  induction n with
  | zero =>
    intro y1 y2 y3 y4 μ hf
    cases (show (none : Option (Int32 × gM)) = some _ from hf)
  | succ n ih =>
    intro y1 y2 y3 y4 μ hf
    unfold fX10_lower_l22 at hf
    refine zr_iload (pc := 22) h dX10_lower_22 rfl ?_
    refine zr_aload_n (pc := 24) h dX10_lower_24 rfl rfl ?_
    refine zf_X10_9 (pc := 25) h h0 dX10_lower_25 ?_
    refine zf_X10_23 (pc := 28) h gkc_4 dX10_lower_28 ?_
    refine zr_iconst (pc := 31) (v := (2 : Int32)) h dX10_lower_31 (by decide) ?_
    refine zr_iald (pc := 32) (q := 2) h gkc_5 rfl (by decide) dX10_lower_32 ?_
    have hf := zIf_s hf
    refine zr_icmp_ge (pc := 33) (tgt := 140) h dX10_lower_33 rfl (fun b16 => ?_) (fun b16 => ?_)
    · have hf := hf.1 b16
      refine zr_iload_n (pc := 140) h dX10_lower_140 rfl rfl ?_
      exact zr_iret (pc := 141) h dX10_lower_141 (zRp hf).1 (zRp hf).2
    · have hf := hf.2 b16
      refine zr_aload_n (pc := 36) h dX10_lower_36 rfl rfl ?_
      refine zf_X10_15 (pc := 37) h h0 dX10_lower_37 ?_
      refine zr_iload (pc := 40) h dX10_lower_40 rfl ?_
      refine zr_iload_n (pc := 42) h dX10_lower_42 rfl rfl ?_
      obtain ⟨x2, ex2, hf⟩ := zBd_s hf
      refine zm_X10_90 (pc := 43) h (gd_X10_1 h0) ⟨by decide, by decide⟩ (cX9_isHeld_ok (gd_X10_1 h0) ex2) rfl (Nat.le_of_ble_eq_true rfl) dX10_lower_43 rfl ?_
      have hf := zIf_s hf
      refine zr_if_eq (pc := 46) (tgt := 102) h dX10_lower_46 rfl (fun b15 => ?_) (fun b15 => ?_)
      · have hf := hf.1 b15
        exact zr_weak h [true, true, true, true, true] (fX10_lower_n102_ok h h0 ih hf)
      · have hf := hf.2 b15
        refine zr_iincx (pc := 49) h dX10_lower_49 rfl (by decide) rfl (c := (1 : Int32)) (by decide) (fun x8 ex8 => ?_)
        have hf := zLt_s ex8 hf
        refine zr_aload_n (pc := 52) h dX10_lower_52 rfl rfl ?_
        refine zf_X10_15 (pc := 53) h h0 dX10_lower_53 ?_
        refine zf_X10_93 (pc := 56) h (gd_X10_1 h0) dX10_lower_56 ?_
        refine zr_iload (pc := 59) h dX10_lower_59 rfl ?_
        refine zr_dup2 (pc := 61) h dX10_lower_61 rfl rfl ?_
        obtain ⟨q9, hf⟩ := zCk_s hf
        refine zr_iald (pc := 62) h (gd_X9_11 (gd_X10_1 h0)) q9 rfl dX10_lower_62 ?_
        refine zr_iconst (pc := 63) (v := (1 : Int32)) h dX10_lower_63 (by decide) ?_
        refine zr_iload_n (pc := 64) h dX10_lower_64 rfl rfl ?_
        refine zr_ishl (pc := 65) h dX10_lower_65 ?_
        refine zr_iconst (pc := 66) (v := (-1 : Int32)) h dX10_lower_66 (by decide) ?_
        refine zr_ixor (pc := 67) h dX10_lower_67 ?_
        refine zr_iand (pc := 68) h dX10_lower_68 ?_
        obtain ⟨q10, hf⟩ := zCk_s hf
        refine zr_iast (pc := 69) h (gd_X9_11 (gd_X10_1 h0)) q10 rfl dX10_lower_69 ?_
        refine zr_mu h (fun μ11 eμ11 => ?_)
        have hf := zLt_s eμ11 hf
        refine zr_aload_n (pc := 70) h dX10_lower_70 rfl rfl ?_
        refine zf_X10_15 (pc := 71) h h0 dX10_lower_71 ?_
        refine zf_X10_96 (pc := 74) h (gd_X10_1 h0) dX10_lower_74 ?_
        refine zr_aload_n (pc := 77) h dX10_lower_77 rfl rfl ?_
        refine zf_X10_15 (pc := 78) h h0 dX10_lower_78 ?_
        refine zf_X10_100 (pc := 81) h (gd_X10_1 h0) dX10_lower_81 ?_
        refine zr_iload (pc := 84) h dX10_lower_84 rfl ?_
        refine zr_iload_n (pc := 86) h dX10_lower_86 rfl rfl ?_
        refine zr_iconst (pc := 87) (v := (2 : Int32)) h dX10_lower_87 (by decide) ?_
        obtain ⟨μ12, eμ12, hf⟩ := zBd_s hf
        refine zm_X10_103 (pc := 88) h (gd_X9_10 (gd_X10_1 h0)) ⟨by decide, by decide⟩ (cX0_add_ok (gd_X9_10 (gd_X10_1 h0)) eμ12) rfl (Nat.le_of_ble_eq_true rfl) dX10_lower_88 rfl ?_
        refine zr_iload_n (pc := 91) h dX10_lower_91 rfl rfl ?_
        have hf := zIf_s hf
        refine zr_if_eq (pc := 92) (tgt := 102) h dX10_lower_92 rfl (fun b14 => ?_) (fun b14 => ?_)
        · have hf := hf.1 b14
          exact zr_weak h [true, true, true, true, true] (fX10_lower_n102_ok h h0 ih hf)
        · have hf := hf.2 b14
          refine zr_aload_n (pc := 95) h dX10_lower_95 rfl rfl ?_
          refine zr_iload (pc := 96) h dX10_lower_96 rfl ?_
          refine zr_iload_n (pc := 98) h dX10_lower_98 rfl rfl ?_
          obtain ⟨μ13, eμ13, hf⟩ := zBd_s hf
          refine zm_X10_109 (pc := 99) h h0 ⟨by decide, by decide⟩ (cX10_sayFarewell_ok h0 eμ13) rfl (Nat.le_of_ble_eq_true rfl) dX10_lower_99 rfl ?_
          exact zr_weak h [true, true, true, true, true] (fX10_lower_n102_ok h h0 ih hf)

set_option maxRecDepth 100000 in
set_option maxHeartbeats 4000000 in
theorem cX10_lower_ok {l : Launch} {g : gG} {p0 : Nat} {a1 : Int32} {a2 : Int32} {μ : gM} {r : Int32} {ν : gM} (h0 : gk (p0 + 14) = (0, 10)) (hf : fX10_lower p0 a1 a2 μ = some (r, ν)) : gMet l g yX10_lower cX10_lower 5 (some .int) 2 85 [.ref (g.1 + (p0 + 14)), .int a1, .int a2] μ (some (.int r)) ν := by
  refine gMet_of (gIni [.ref (g.1 + (p0 + 14)), .int a1, .int a2] ++ List.replicate 2 none) (by decide) (gIni_ok _ _) (Nat.le_of_ble_eq_true rfl) (fun K h => ?_)
  show K 0 [some (.ref (g.1 + (p0 + 14))), some (.int a1), some (.int a2), none, none] [] μ
  unfold fX10_lower at hf
  refine zr_iconst (pc := 0) (v := (0 : Int32)) h dX10_lower_0 (by decide) ?_
  refine zr_istore_n (pc := 1) h dX10_lower_1 rfl (by decide) rfl ?_
  refine zr_aload_n (pc := 2) h dX10_lower_2 rfl rfl ?_
  refine zf_X10_15 (pc := 3) h h0 dX10_lower_3 ?_
  refine zr_dup (pc := 6) h dX10_lower_6 rfl ?_
  refine zf_X10_77 (pc := 7) h (gd_X10_1 h0) dX10_lower_7 ?_
  refine zr_iconst (pc := 10) (v := (1 : Int32)) h dX10_lower_10 (by decide) ?_
  refine zr_iload_n (pc := 11) h dX10_lower_11 rfl rfl ?_
  refine zr_ishl (pc := 12) h dX10_lower_12 ?_
  refine zr_iconst (pc := 13) (v := (-1 : Int32)) h dX10_lower_13 (by decide) ?_
  refine zr_ixor (pc := 14) h dX10_lower_14 ?_
  refine zr_iand (pc := 15) h dX10_lower_15 ?_
  refine zp_X10_77 (pc := 16) h (gd_X10_1 h0) dX10_lower_16 ?_
  refine zr_mu h (fun μ1 eμ1 => ?_)
  have hf := zLt_s eμ1 hf
  refine zr_iconst (pc := 19) (v := (0 : Int32)) h dX10_lower_19 (by decide) ?_
  refine zr_istore (pc := 20) h dX10_lower_20 (by decide) rfl ?_
  exact zr_weak h [true, true, true, true, true] (fX10_lower_l22_ok h h0 100000 _ _ _ _ _ hf)

set_option maxRecDepth 100000 in
set_option maxHeartbeats 4000000 in
theorem cX10_weigh_ok {l : Launch} {g : gG} {p0 : Nat} {a1 : Int32} {μ : gM} {ν : gM} (h0 : gk (p0 + 14) = (0, 10)) (hf : fX10_weigh p0 a1 μ = some ν) : gMet l g yX10_weigh cX10_weigh 3 none 1 25 [.ref (g.1 + (p0 + 14)), .int a1] μ none ν := by
  refine gMet_of (gIni [.ref (g.1 + (p0 + 14)), .int a1] ++ List.replicate 1 none) (by decide) (gIni_ok _ _) (Nat.le_of_ble_eq_true rfl) (fun K h => ?_)
  show K 0 [some (.ref (g.1 + (p0 + 14))), some (.int a1), none] [] μ
  unfold fX10_weigh at hf
  refine zr_aload_n (pc := 0) h dX10_weigh_0 rfl rfl ?_
  refine zf_X10_9 (pc := 1) h h0 dX10_weigh_1 ?_
  refine zr_iload_n (pc := 4) h dX10_weigh_4 rfl rfl ?_
  refine zr_aload_n (pc := 5) h dX10_weigh_5 rfl rfl ?_
  refine zf_X10_15 (pc := 6) h h0 dX10_weigh_6 ?_
  refine zf_X10_57 (pc := 9) h (gd_X10_1 h0) dX10_weigh_9 ?_
  refine zr_iload_n (pc := 12) h dX10_weigh_12 rfl rfl ?_
  obtain ⟨q1, hf⟩ := zCk_s hf
  refine zr_iald (pc := 13) h (gd_X9_15 (gd_X10_1 h0)) q1 rfl dX10_weigh_13 ?_
  refine zr_aload_n (pc := 14) h dX10_weigh_14 rfl rfl ?_
  refine zf_X10_15 (pc := 15) h h0 dX10_weigh_15 ?_
  refine zf_X10_51 (pc := 18) h (gd_X10_1 h0) dX10_weigh_18 ?_
  obtain ⟨x2, ex2, hf⟩ := zBd_s hf
  refine zm_X10_60 (pc := 21) h gkc_4 ⟨by decide, by decide⟩ (cX1_weightOf_ok gkc_4 ex2) rfl (Nat.le_of_ble_eq_true rfl) dX10_weigh_21 rfl ?_
  refine zr_istore_n (pc := 24) h dX10_weigh_24 rfl (by decide) rfl ?_
  refine zr_aload_n (pc := 25) h dX10_weigh_25 rfl rfl ?_
  refine zf_X10_15 (pc := 26) h h0 dX10_weigh_26 ?_
  refine zf_X10_64 (pc := 29) h (gd_X10_1 h0) dX10_weigh_29 ?_
  refine zr_iload_n (pc := 32) h dX10_weigh_32 rfl rfl ?_
  refine zr_iload_n (pc := 33) h dX10_weigh_33 rfl rfl ?_
  obtain ⟨q3, hf⟩ := zCk_s hf
  refine zr_iast (pc := 34) h (gd_X9_16 (gd_X10_1 h0)) q3 rfl dX10_weigh_34 ?_
  refine zr_mu h (fun μ4 eμ4 => ?_)
  have hf := zLt_s eμ4 hf
  refine zr_aload_n (pc := 35) h dX10_weigh_35 rfl rfl ?_
  refine zf_X10_15 (pc := 36) h h0 dX10_weigh_36 ?_
  refine zf_X10_67 (pc := 39) h (gd_X10_1 h0) dX10_weigh_39 ?_
  refine zr_iload_n (pc := 42) h dX10_weigh_42 rfl rfl ?_
  refine zr_aload_n (pc := 43) h dX10_weigh_43 rfl rfl ?_
  refine zf_X10_9 (pc := 44) h h0 dX10_weigh_44 ?_
  refine zf_X10_70 (pc := 47) h gkc_4 dX10_weigh_47 ?_
  refine zr_iload_n (pc := 50) h dX10_weigh_50 rfl rfl ?_
  refine zr_bipush (pc := 51) (v := (6 : Int32)) h dX10_weigh_51 (by decide) ?_
  refine zr_idiv (pc := 53) h dX10_weigh_53 (by decide) ?_
  obtain ⟨q5, hf⟩ := zCk_s hf
  refine zr_iald (pc := 54) h gkc_7 q5 rfl dX10_weigh_54 ?_
  refine zr_sipush (pc := 55) (v := (256 : Int32)) h dX10_weigh_55 (by decide) ?_
  refine zr_iload_n (pc := 58) h dX10_weigh_58 rfl rfl ?_
  refine zr_isub (pc := 59) h dX10_weigh_59 ?_
  refine zr_imul (pc := 60) h dX10_weigh_60 ?_
  refine zr_sipush (pc := 61) (v := (256 : Int32)) h dX10_weigh_61 (by decide) ?_
  refine zr_idiv (pc := 64) h dX10_weigh_64 (by decide) ?_
  obtain ⟨q6, hf⟩ := zCk_s hf
  refine zr_iast (pc := 65) h (gd_X9_17 (gd_X10_1 h0)) q6 rfl dX10_weigh_65 ?_
  refine zr_mu h (fun μ7 eμ7 => ?_)
  have hf := zLt_s eμ7 hf
  exact zr_vret (pc := 66) h dX10_weigh_66 rfl (zRv hf)

set_option maxRecDepth 100000 in
set_option maxHeartbeats 4000000 in
theorem fX10_setCuts_l10_ok {l : Launch} {g : gG} {p0 : Nat} {ν : gM} {K : gKt} (h : gR l g cX10_setCuts RX10 3 none (gRm 2 47) none ν K) (h0 : gk (p0 + 14) = (0, 10)) : ∀ (n : Nat) (y2 : Int32) (μ : gM), fX10_setCuts_l10 p0 n y2 μ = some ν → K 10 [some (.ref (g.1 + (p0 + 14))), none, some (.int y2)] [] μ := by
  intro n
  induction n with
  | zero =>
    intro y2 μ hf
    cases (show (none : Option gM) = some _ from hf)
  | succ n ih =>
    intro y2 μ hf
    unfold fX10_setCuts_l10 at hf
    refine zr_iload_n (pc := 10) h dX10_setCuts_10 rfl rfl ?_
    refine zr_bipush (pc := 11) (v := (30 : Int32)) h dX10_setCuts_11 (by decide) ?_
    have hf := zIf_s hf
    refine zr_icmp_ge (pc := 13) (tgt := 27) h dX10_setCuts_13 rfl (fun b4 => ?_) (fun b4 => ?_)
    · have hf := hf.1 b4
      exact zr_vret (pc := 27) h dX10_setCuts_27 rfl (zRv hf)
    · have hf := hf.2 b4
      refine zr_aload_n (pc := 16) h dX10_setCuts_16 rfl rfl ?_
      refine zr_iload_n (pc := 17) h dX10_setCuts_17 rfl rfl ?_
      obtain ⟨μ2, eμ2, hf⟩ := zBd_s hf
      refine zm_X10_54 (pc := 18) h h0 ⟨by decide, by decide⟩ (cX10_weigh_ok h0 eμ2) rfl (Nat.le_of_ble_eq_true rfl) dX10_setCuts_18 rfl ?_
      refine zr_iincx (pc := 21) h dX10_setCuts_21 rfl (by decide) rfl (c := (1 : Int32)) (by decide) (fun x3 ex3 => ?_)
      have hf := zLt_s ex3 hf
      refine zr_goto (pc := 24) (tgt := 10) h dX10_setCuts_24 rfl ?_
      exact zr_weak h [true, false, true] (ih _ _ hf)

set_option maxRecDepth 100000 in
set_option maxHeartbeats 4000000 in
theorem cX10_setCuts_ok {l : Launch} {g : gG} {p0 : Nat} {a1 : Int32} {μ : gM} {ν : gM} (h0 : gk (p0 + 14) = (0, 10)) (hf : fX10_setCuts p0 a1 μ = some ν) : gMet l g yX10_setCuts cX10_setCuts 3 none 2 47 [.ref (g.1 + (p0 + 14)), .int a1] μ none ν := by
  refine gMet_of (gIni [.ref (g.1 + (p0 + 14)), .int a1] ++ List.replicate 1 none) (by decide) (gIni_ok _ _) (Nat.le_of_ble_eq_true rfl) (fun K h => ?_)
  show K 0 [some (.ref (g.1 + (p0 + 14))), some (.int a1), none] [] μ
  unfold fX10_setCuts at hf
  refine zr_aload_n (pc := 0) h dX10_setCuts_0 rfl rfl ?_
  refine zf_X10_15 (pc := 1) h h0 dX10_setCuts_1 ?_
  refine zr_iload_n (pc := 4) h dX10_setCuts_4 rfl rfl ?_
  refine zp_X10_51 (pc := 5) h (gd_X10_1 h0) dX10_setCuts_5 ?_
  refine zr_mu h (fun μ1 eμ1 => ?_)
  have hf := zLt_s eμ1 hf
  refine zr_iconst (pc := 8) (v := (0 : Int32)) h dX10_setCuts_8 (by decide) ?_
  refine zr_istore_n (pc := 9) h dX10_setCuts_9 rfl (by decide) rfl ?_
  exact zr_weak h [true, false, true] (fX10_setCuts_l10_ok h h0 100000 _ _ hf)

set_option maxRecDepth 100000 in
set_option maxHeartbeats 4000000 in
theorem cX10_tell_ok {l : Launch} {g : gG} {p0 : Nat} {a1 : Int32} {a2 : Int32} {a3 : Int32} {μ : gM} {ν : gM} (h0 : gk (p0 + 14) = (0, 10)) (hf : fX10_tell p0 a1 a2 a3 μ = some ν) : gMet l g yX10_tell cX10_tell 4 none 2 47 [.ref (g.1 + (p0 + 14)), .int a1, .int a2, .int a3] μ none ν := by
  refine gMet_of (gIni [.ref (g.1 + (p0 + 14)), .int a1, .int a2, .int a3] ++ List.replicate 0 none) (by decide) (gIni_ok _ _) (Nat.le_of_ble_eq_true rfl) (fun K h => ?_)
  show K 0 [some (.ref (g.1 + (p0 + 14))), some (.int a1), some (.int a2), some (.int a3)] [] μ
  unfold fX10_tell at hf
  refine zr_aload_n (pc := 0) h dX10_tell_0 rfl rfl ?_
  refine zf_X10_9 (pc := 1) h h0 dX10_tell_1 ?_
  refine zr_iload_n (pc := 4) h dX10_tell_4 rfl rfl ?_
  refine zr_iload_n (pc := 5) h dX10_tell_5 rfl rfl ?_
  obtain ⟨x1, ex1, hf⟩ := zBd_s hf
  refine zm_X10_73 (pc := 6) h gkc_4 ⟨by decide, by decide⟩ (cX1_isMember_ok gkc_4 ex1) rfl (Nat.le_of_ble_eq_true rfl) dX10_tell_6 rfl ?_
  have hf := zIf_s hf
  refine zr_if_eq (pc := 9) (tgt := 37) h dX10_tell_9 rfl (fun b5 => ?_) (fun b5 => ?_)
  · have hf := hf.1 b5
    exact zr_vret (pc := 37) h dX10_tell_37 rfl (zRv hf)
  · have hf := hf.2 b5
    refine zr_aload_n (pc := 12) h dX10_tell_12 rfl rfl ?_
    refine zf_X10_15 (pc := 13) h h0 dX10_tell_13 ?_
    refine zf_X10_57 (pc := 16) h (gd_X10_1 h0) dX10_tell_16 ?_
    refine zr_iload_n (pc := 19) h dX10_tell_19 rfl rfl ?_
    refine zr_bipush (pc := 20) (v := (6 : Int32)) h dX10_tell_20 (by decide) ?_
    refine zr_imul (pc := 22) h dX10_tell_22 ?_
    refine zr_iload_n (pc := 23) h dX10_tell_23 rfl rfl ?_
    refine zr_iadd (pc := 24) h dX10_tell_24 ?_
    refine zr_iload_n (pc := 25) h dX10_tell_25 rfl rfl ?_
    obtain ⟨q2, hf⟩ := zCk_s hf
    refine zr_iast (pc := 26) h (gd_X9_15 (gd_X10_1 h0)) q2 rfl dX10_tell_26 ?_
    refine zr_mu h (fun μ3 eμ3 => ?_)
    have hf := zLt_s eμ3 hf
    refine zr_aload_n (pc := 27) h dX10_tell_27 rfl rfl ?_
    refine zr_iload_n (pc := 28) h dX10_tell_28 rfl rfl ?_
    refine zr_bipush (pc := 29) (v := (6 : Int32)) h dX10_tell_29 (by decide) ?_
    refine zr_imul (pc := 31) h dX10_tell_31 ?_
    refine zr_iload_n (pc := 32) h dX10_tell_32 rfl rfl ?_
    refine zr_iadd (pc := 33) h dX10_tell_33 ?_
    obtain ⟨μ4, eμ4, hf⟩ := zBd_s hf
    refine zm_X10_54 (pc := 34) h h0 ⟨by decide, by decide⟩ (cX10_weigh_ok h0 eμ4) rfl (Nat.le_of_ble_eq_true rfl) dX10_tell_34 rfl ?_
    exact zr_vret (pc := 37) h dX10_tell_37 rfl (zRv hf)

set_option maxRecDepth 100000 in
set_option maxHeartbeats 4000000 in
theorem fX10_happen_l8_ok {l : Launch} {g : gG} {p0 : Nat} {ν : gM} {K : gKt} (h : gR l g cX10_happen RX10 4 none (gRm 3 109) none ν K) (h0 : gk (p0 + 14) = (0, 10)) : ∀ (n : Nat) (y1 : Int32) (μ : gM), fX10_happen_l8 p0 n y1 μ = some ν → K 8 [some (.ref (g.1 + (p0 + 14))), some (.int y1), none, none] [] μ := by
  intro n
  induction n with
  | zero =>
    intro y1 μ hf
    cases (show (none : Option gM) = some _ from hf)
  | succ n ih =>
    intro y1 μ hf
    unfold fX10_happen_l8 at hf
    refine zr_iload_n (pc := 8) h dX10_happen_8 rfl rfl ?_
    refine zr_aload_n (pc := 9) h dX10_happen_9 rfl rfl ?_
    refine zf_X10_15 (pc := 10) h h0 dX10_happen_10 ?_
    refine zf_X10_170 (pc := 13) h (gd_X10_1 h0) dX10_happen_13 ?_
    refine zf_X10_174 (pc := 16) h (gd_X9_9 (gd_X10_1 h0)) dX10_happen_16 ?_
    have hf := zIf_s hf
    refine zr_icmp_ge (pc := 19) (tgt := 260) h dX10_happen_19 rfl (fun b35 => ?_) (fun b35 => ?_)
    · have hf := hf.1 b35
      exact zr_vret (pc := 260) h dX10_happen_260 rfl (zRv hf)
    · have hf := hf.2 b35
      refine zr_aload_n (pc := 22) h dX10_happen_22 rfl rfl ?_
      refine zf_X10_15 (pc := 23) h h0 dX10_happen_23 ?_
      refine zf_X10_170 (pc := 26) h (gd_X10_1 h0) dX10_happen_26 ?_
      refine zr_iload_n (pc := 29) h dX10_happen_29 rfl rfl ?_
      obtain ⟨x2, ex2, hf⟩ := zBd_s hf
      refine zm_X10_179 (pc := 30) h (gd_X9_9 (gd_X10_1 h0)) ⟨by decide, by decide⟩ (cX5_at_ok (gd_X9_9 (gd_X10_1 h0)) ex2) rfl (Nat.le_of_ble_eq_true rfl) dX10_happen_30 rfl ?_
      refine zr_aload_n (pc := 33) h dX10_happen_33 rfl rfl ?_
      refine zf_X10_15 (pc := 34) h h0 dX10_happen_34 ?_
      refine zf_X10_100 (pc := 37) h (gd_X10_1 h0) dX10_happen_37 ?_
      have hf := zIf_s hf
      refine zr_icmp_ne (pc := 40) (tgt := 260) h dX10_happen_40 rfl (fun b34 => ?_) (fun b34 => ?_)
      · have hf := hf.2 b34
        exact zr_vret (pc := 260) h dX10_happen_260 rfl (zRv hf)
      · have hf := hf.1 b34
        refine zr_aload_n (pc := 43) h dX10_happen_43 rfl rfl ?_
        refine zf_X10_15 (pc := 44) h h0 dX10_happen_44 ?_
        refine zr_iload_n (pc := 47) h dX10_happen_47 rfl rfl ?_
        refine zr_iconst (pc := 48) (v := (1 : Int32)) h dX10_happen_48 (by decide) ?_
        refine zr_iadd (pc := 49) h dX10_happen_49 ?_
        refine zp_X10_167 (pc := 50) h (gd_X10_1 h0) dX10_happen_50 ?_
        refine zr_mu h (fun μ3 eμ3 => ?_)
        have hf := zLt_s eμ3 hf
        refine zr_iload_n (pc := 53) h dX10_happen_53 rfl rfl ?_
        refine zr_iconst (pc := 54) (v := (5 : Int32)) h dX10_happen_54 (by decide) ?_
        refine zr_imul (pc := 55) h dX10_happen_55 ?_
        refine zr_topi h (fun x4 ex4 => ?_)
        have hf := zLt_s ex4 hf
        refine zr_istore_n (pc := 56) h dX10_happen_56 rfl (by decide) rfl ?_
        refine zr_aload_n (pc := 57) h dX10_happen_57 rfl rfl ?_
        refine zf_X10_15 (pc := 58) h h0 dX10_happen_58 ?_
        refine zf_X10_170 (pc := 61) h (gd_X10_1 h0) dX10_happen_61 ?_
        refine zf_X10_182 (pc := 64) h (gd_X9_9 (gd_X10_1 h0)) dX10_happen_64 ?_
        refine zr_iload_n (pc := 67) h dX10_happen_67 rfl rfl ?_
        refine zr_iconst (pc := 68) (v := (2 : Int32)) h dX10_happen_68 (by decide) ?_
        refine zr_iadd (pc := 69) h dX10_happen_69 ?_
        obtain ⟨q5, hf⟩ := zCk_s hf
        refine zr_iald (pc := 70) h (gd_X5_1 (gd_X9_9 (gd_X10_1 h0))) q5 rfl dX10_happen_70 ?_
        refine zr_topi h (fun x6 ex6 => ?_)
        have hf := zLt_s ex6 hf
        refine zr_istore_n (pc := 71) h dX10_happen_71 rfl (by decide) rfl ?_
        refine zr_aload_n (pc := 72) h dX10_happen_72 rfl rfl ?_
        refine zf_X10_15 (pc := 73) h h0 dX10_happen_73 ?_
        refine zf_X10_170 (pc := 76) h (gd_X10_1 h0) dX10_happen_76 ?_
        refine zf_X10_182 (pc := 79) h (gd_X9_9 (gd_X10_1 h0)) dX10_happen_79 ?_
        refine zr_iload_n (pc := 82) h dX10_happen_82 rfl rfl ?_
        refine zr_iconst (pc := 83) (v := (1 : Int32)) h dX10_happen_83 (by decide) ?_
        refine zr_iadd (pc := 84) h dX10_happen_84 ?_
        obtain ⟨q7, hf⟩ := zCk_s hf
        refine zr_iald (pc := 85) h (gd_X5_1 (gd_X9_9 (gd_X10_1 h0))) q7 rfl dX10_happen_85 ?_
        refine zr_topi h (fun x8 ex8 => ?_)
        have hf := zLt_s ex8 hf
        have hf := zIf_s hf
        rcases Decidable.em (x8 = (0 : Int32)) with b9 | b9
        · have hf := hf.1 b9
          refine zr_tabIn (pc := 86) (tgt := 128) h dX10_happen_86 (by rw [b9]; decide) (by rw [b9]; decide) (off := 42) (by rw [b9]; rfl) rfl ?_
          refine zr_aload_n (pc := 128) h dX10_happen_128 rfl rfl ?_
          refine zr_iconst (pc := 129) (v := (1 : Int32)) h dX10_happen_129 (by decide) ?_
          refine zr_iload_n (pc := 130) h dX10_happen_130 rfl rfl ?_
          refine zr_ishl (pc := 131) h dX10_happen_131 ?_
          refine zr_aload_n (pc := 132) h dX10_happen_132 rfl rfl ?_
          refine zf_X10_15 (pc := 133) h h0 dX10_happen_133 ?_
          refine zf_X10_77 (pc := 136) h (gd_X10_1 h0) dX10_happen_136 ?_
          refine zr_iconst (pc := 139) (v := (-1 : Int32)) h dX10_happen_139 (by decide) ?_
          refine zr_ixor (pc := 140) h dX10_happen_140 ?_
          refine zr_iand (pc := 141) h dX10_happen_141 ?_
          obtain ⟨μ10, eμ10, hf⟩ := zBd_s hf
          refine zm_X10_48 (pc := 142) h h0 ⟨by decide, by decide⟩ (cX10_raise_ok h0 eμ10) rfl (Nat.le_of_ble_eq_true rfl) dX10_happen_142 rfl ?_
          refine zr_goto (pc := 145) (tgt := 254) h dX10_happen_145 rfl ?_
          refine zr_iincx (pc := 254) h dX10_happen_254 rfl (by decide) rfl (c := (1 : Int32)) (by decide) (fun x11 ex11 => ?_)
          have hf := zLt_s ex11 hf
          refine zr_goto (pc := 257) (tgt := 8) h dX10_happen_257 rfl ?_
          exact zr_weak h [true, true, false, false] (ih _ _ hf)
        · have hf := hf.2 b9
          have hf := zIf_s hf
          rcases Decidable.em (x8 = (1 : Int32)) with b12 | b12
          · have hf := hf.1 b12
            refine zr_tabIn (pc := 86) (tgt := 148) h dX10_happen_86 (by rw [b12]; decide) (by rw [b12]; decide) (off := 62) (by rw [b12]; rfl) rfl ?_
            refine zr_aload_n (pc := 148) h dX10_happen_148 rfl rfl ?_
            refine zr_iload_n (pc := 149) h dX10_happen_149 rfl rfl ?_
            refine zr_iconst (pc := 150) (v := (0 : Int32)) h dX10_happen_150 (by decide) ?_
            obtain ⟨x13, μ14, ex13, hf⟩ := zBp_s hf
            refine zm_X10_185 (pc := 151) h h0 ⟨by decide, by decide⟩ (cX10_lower_ok h0 ex13) rfl (Nat.le_of_ble_eq_true rfl) dX10_happen_151 rfl ?_
            refine zr_pop (pc := 154) h dX10_happen_154 rfl ?_
            refine zr_goto (pc := 155) (tgt := 254) h dX10_happen_155 rfl ?_
            refine zr_iincx (pc := 254) h dX10_happen_254 rfl (by decide) rfl (c := (1 : Int32)) (by decide) (fun x15 ex15 => ?_)
            have hf := zLt_s ex15 hf
            refine zr_goto (pc := 257) (tgt := 8) h dX10_happen_257 rfl ?_
            exact zr_weak h [true, true, false, false] (ih _ _ hf)
          · have hf := hf.2 b12
            have hf := zIf_s hf
            rcases Decidable.em (x8 = (2 : Int32)) with b16 | b16
            · have hf := hf.1 b16
              refine zr_tabIn (pc := 86) (tgt := 158) h dX10_happen_86 (by rw [b16]; decide) (by rw [b16]; decide) (off := 72) (by rw [b16]; rfl) rfl ?_
              refine zr_aload_n (pc := 158) h dX10_happen_158 rfl rfl ?_
              refine zr_aload_n (pc := 159) h dX10_happen_159 rfl rfl ?_
              refine zf_X10_15 (pc := 160) h h0 dX10_happen_160 ?_
              refine zf_X10_51 (pc := 163) h (gd_X10_1 h0) dX10_happen_163 ?_
              refine zr_iconst (pc := 166) (v := (1 : Int32)) h dX10_happen_166 (by decide) ?_
              refine zr_iload_n (pc := 167) h dX10_happen_167 rfl rfl ?_
              refine zr_ishl (pc := 168) h dX10_happen_168 ?_
              refine zr_ior (pc := 169) h dX10_happen_169 ?_
              obtain ⟨μ17, eμ17, hf⟩ := zBd_s hf
              refine zm_X10_44 (pc := 170) h h0 ⟨by decide, by decide⟩ (cX10_setCuts_ok h0 eμ17) rfl (Nat.le_of_ble_eq_true rfl) dX10_happen_170 rfl ?_
              refine zr_goto (pc := 173) (tgt := 254) h dX10_happen_173 rfl ?_
              refine zr_iincx (pc := 254) h dX10_happen_254 rfl (by decide) rfl (c := (1 : Int32)) (by decide) (fun x18 ex18 => ?_)
              have hf := zLt_s ex18 hf
              refine zr_goto (pc := 257) (tgt := 8) h dX10_happen_257 rfl ?_
              exact zr_weak h [true, true, false, false] (ih _ _ hf)
            · have hf := hf.2 b16
              have hf := zIf_s hf
              rcases Decidable.em (x8 = (3 : Int32)) with b19 | b19
              · have hf := hf.1 b19
                refine zr_tabIn (pc := 86) (tgt := 176) h dX10_happen_86 (by rw [b19]; decide) (by rw [b19]; decide) (off := 90) (by rw [b19]; rfl) rfl ?_
                refine zr_aload_n (pc := 176) h dX10_happen_176 rfl rfl ?_
                refine zr_aload_n (pc := 177) h dX10_happen_177 rfl rfl ?_
                refine zf_X10_15 (pc := 178) h h0 dX10_happen_178 ?_
                refine zf_X10_51 (pc := 181) h (gd_X10_1 h0) dX10_happen_181 ?_
                refine zr_iconst (pc := 184) (v := (1 : Int32)) h dX10_happen_184 (by decide) ?_
                refine zr_iload_n (pc := 185) h dX10_happen_185 rfl rfl ?_
                refine zr_ishl (pc := 186) h dX10_happen_186 ?_
                refine zr_iconst (pc := 187) (v := (-1 : Int32)) h dX10_happen_187 (by decide) ?_
                refine zr_ixor (pc := 188) h dX10_happen_188 ?_
                refine zr_iand (pc := 189) h dX10_happen_189 ?_
                obtain ⟨μ20, eμ20, hf⟩ := zBd_s hf
                refine zm_X10_44 (pc := 190) h h0 ⟨by decide, by decide⟩ (cX10_setCuts_ok h0 eμ20) rfl (Nat.le_of_ble_eq_true rfl) dX10_happen_190 rfl ?_
                refine zr_goto (pc := 193) (tgt := 254) h dX10_happen_193 rfl ?_
                refine zr_iincx (pc := 254) h dX10_happen_254 rfl (by decide) rfl (c := (1 : Int32)) (by decide) (fun x21 ex21 => ?_)
                have hf := zLt_s ex21 hf
                refine zr_goto (pc := 257) (tgt := 8) h dX10_happen_257 rfl ?_
                exact zr_weak h [true, true, false, false] (ih _ _ hf)
              · have hf := hf.2 b19
                have hf := zIf_s hf
                rcases Decidable.em (x8 = (4 : Int32)) with b22 | b22
                · have hf := hf.1 b22
                  refine zr_tabIn (pc := 86) (tgt := 196) h dX10_happen_86 (by rw [b22]; decide) (by rw [b22]; decide) (off := 110) (by rw [b22]; rfl) rfl ?_
                  refine zr_aload_n (pc := 196) h dX10_happen_196 rfl rfl ?_
                  refine zf_X10_15 (pc := 197) h h0 dX10_happen_197 ?_
                  refine zr_iload_n (pc := 200) h dX10_happen_200 rfl rfl ?_
                  refine zp_X10_189 (pc := 201) h (gd_X10_1 h0) dX10_happen_201 ?_
                  refine zr_mu h (fun μ23 eμ23 => ?_)
                  have hf := zLt_s eμ23 hf
                  refine zr_goto (pc := 204) (tgt := 254) h dX10_happen_204 rfl ?_
                  refine zr_iincx (pc := 254) h dX10_happen_254 rfl (by decide) rfl (c := (1 : Int32)) (by decide) (fun x24 ex24 => ?_)
                  have hf := zLt_s ex24 hf
                  refine zr_goto (pc := 257) (tgt := 8) h dX10_happen_257 rfl ?_
                  exact zr_weak h [true, true, false, false] (ih _ _ hf)
                · have hf := hf.2 b22
                  have hf := zIf_s hf
                  rcases Decidable.em (x8 = (5 : Int32)) with b25 | b25
                  · have hf := hf.1 b25
                    refine zr_tabIn (pc := 86) (tgt := 207) h dX10_happen_86 (by rw [b25]; decide) (by rw [b25]; decide) (off := 121) (by rw [b25]; rfl) rfl ?_
                    refine zr_aload_n (pc := 207) h dX10_happen_207 rfl rfl ?_
                    refine zf_X10_15 (pc := 208) h h0 dX10_happen_208 ?_
                    refine zr_iconst (pc := 211) (v := (0 : Int32)) h dX10_happen_211 (by decide) ?_
                    refine zp_X10_189 (pc := 212) h (gd_X10_1 h0) dX10_happen_212 ?_
                    refine zr_mu h (fun μ26 eμ26 => ?_)
                    have hf := zLt_s eμ26 hf
                    refine zr_goto (pc := 215) (tgt := 254) h dX10_happen_215 rfl ?_
                    refine zr_iincx (pc := 254) h dX10_happen_254 rfl (by decide) rfl (c := (1 : Int32)) (by decide) (fun x27 ex27 => ?_)
                    have hf := zLt_s ex27 hf
                    refine zr_goto (pc := 257) (tgt := 8) h dX10_happen_257 rfl ?_
                    exact zr_weak h [true, true, false, false] (ih _ _ hf)
                  · have hf := hf.2 b25
                    have hf := zIf_s hf
                    rcases Decidable.em (x8 = (6 : Int32)) with b28 | b28
                    · have hf := hf.1 b28
                      refine zr_tabIn (pc := 86) (tgt := 218) h dX10_happen_86 (by rw [b28]; decide) (by rw [b28]; decide) (off := 132) (by rw [b28]; rfl) rfl ?_
                      refine zr_aload_n (pc := 218) h dX10_happen_218 rfl rfl ?_
                      refine zr_aload_n (pc := 219) h dX10_happen_219 rfl rfl ?_
                      refine zf_X10_15 (pc := 220) h h0 dX10_happen_220 ?_
                      refine zf_X10_170 (pc := 223) h (gd_X10_1 h0) dX10_happen_223 ?_
                      refine zf_X10_182 (pc := 226) h (gd_X9_9 (gd_X10_1 h0)) dX10_happen_226 ?_
                      refine zr_iload_n (pc := 229) h dX10_happen_229 rfl rfl ?_
                      refine zr_iconst (pc := 230) (v := (3 : Int32)) h dX10_happen_230 (by decide) ?_
                      refine zr_iadd (pc := 231) h dX10_happen_231 ?_
                      obtain ⟨q29, hf⟩ := zCk_s hf
                      refine zr_iald (pc := 232) h (gd_X5_1 (gd_X9_9 (gd_X10_1 h0))) q29 rfl dX10_happen_232 ?_
                      refine zr_iload_n (pc := 233) h dX10_happen_233 rfl rfl ?_
                      refine zr_aload_n (pc := 234) h dX10_happen_234 rfl rfl ?_
                      refine zf_X10_15 (pc := 235) h h0 dX10_happen_235 ?_
                      refine zf_X10_170 (pc := 238) h (gd_X10_1 h0) dX10_happen_238 ?_
                      refine zf_X10_182 (pc := 241) h (gd_X9_9 (gd_X10_1 h0)) dX10_happen_241 ?_
                      refine zr_iload_n (pc := 244) h dX10_happen_244 rfl rfl ?_
                      refine zr_iconst (pc := 245) (v := (4 : Int32)) h dX10_happen_245 (by decide) ?_
                      refine zr_iadd (pc := 246) h dX10_happen_246 ?_
                      obtain ⟨q30, hf⟩ := zCk_s hf
                      refine zr_iald (pc := 247) h (gd_X5_1 (gd_X9_9 (gd_X10_1 h0))) q30 rfl dX10_happen_247 ?_
                      obtain ⟨μ31, eμ31, hf⟩ := zBd_s hf
                      refine zm_X10_192 (pc := 248) h h0 ⟨by decide, by decide⟩ (cX10_tell_ok h0 eμ31) rfl (Nat.le_of_ble_eq_true rfl) dX10_happen_248 rfl ?_
                      refine zr_goto (pc := 251) (tgt := 254) h dX10_happen_251 rfl ?_
                      refine zr_iincx (pc := 254) h dX10_happen_254 rfl (by decide) rfl (c := (1 : Int32)) (by decide) (fun x32 ex32 => ?_)
                      have hf := zLt_s ex32 hf
                      refine zr_goto (pc := 257) (tgt := 8) h dX10_happen_257 rfl ?_
                      exact zr_weak h [true, true, false, false] (ih _ _ hf)
                    · have hf := hf.2 b28
                      refine zr_tabOut (pc := 86) (tgt := 254) h dX10_happen_86 (zTab_7 b9 b12 b16 b19 b22 b25 b28) rfl ?_
                      refine zr_iincx (pc := 254) h dX10_happen_254 rfl (by decide) rfl (c := (1 : Int32)) (by decide) (fun x33 ex33 => ?_)
                      have hf := zLt_s ex33 hf
                      refine zr_goto (pc := 257) (tgt := 8) h dX10_happen_257 rfl ?_
                      exact zr_weak h [true, true, false, false] (ih _ _ hf)

set_option maxRecDepth 100000 in
set_option maxHeartbeats 4000000 in
theorem cX10_happen_ok {l : Launch} {g : gG} {p0 : Nat} {μ : gM} {ν : gM} (h0 : gk (p0 + 14) = (0, 10)) (hf : fX10_happen p0 μ = some ν) : gMet l g yX10_happen cX10_happen 4 none 3 109 [.ref (g.1 + (p0 + 14))] μ none ν := by
  refine gMet_of (gIni [.ref (g.1 + (p0 + 14))] ++ List.replicate 3 none) (by decide) (gIni_ok _ _) (Nat.le_of_ble_eq_true rfl) (fun K h => ?_)
  show K 0 [some (.ref (g.1 + (p0 + 14))), none, none, none] [] μ
  unfold fX10_happen at hf
  refine zr_aload_n (pc := 0) h dX10_happen_0 rfl rfl ?_
  refine zf_X10_15 (pc := 1) h h0 dX10_happen_1 ?_
  refine zf_X10_167 (pc := 4) h (gd_X10_1 h0) dX10_happen_4 ?_
  refine zr_topi h (fun x1 ex1 => ?_)
  have hf := zLt_s ex1 hf
  refine zr_istore_n (pc := 7) h dX10_happen_7 rfl (by decide) rfl ?_
  exact zr_weak h [true, true, false, false] (fX10_happen_l8_ok h h0 100000 _ _ hf)

set_option maxRecDepth 100000 in
set_option maxHeartbeats 4000000 in
theorem fX10_send_n84_ok {l : Launch} {g : gG} {p0 : Nat} {k23 : Int32 → Int32 → Int32 → Int32 → gM → Option (Int32 × gM)} {r : Int32} {ν : gM} {K : gKt} (h : gR l g cX10_send RX10 6 (some .int) (gRm 2 48) (some (.int r)) ν K) (h0 : gk (p0 + 14) = (0, 10)) (hk23 : ∀ (y1 : Int32) (y2 : Int32) (y3 : Int32) (y4 : Int32) (ν1 : gM), k23 y1 y2 y3 y4 ν1 = some (r, ν) → K 23 [some (.ref (g.1 + (p0 + 14))), some (.int y1), some (.int y2), some (.int y3), some (.int y4), none] [] ν1) {y1 : Int32} {y2 : Int32} {y3 : Int32} {y4 : Int32} {y5 : Int32} {μ : gM} (hf : fX10_send_n84 p0 k23 y1 y2 y3 y4 y5 μ = some (r, ν)) : K 84 [some (.ref (g.1 + (p0 + 14))), some (.int y1), some (.int y2), some (.int y3), some (.int y4), some (.int y5)] [] μ := by
  unfold fX10_send_n84 at hf
  refine zr_aload_n (pc := 84) h dX10_send_84 rfl rfl ?_
  refine zf_X10_15 (pc := 85) h h0 dX10_send_85 ?_
  refine zf_X10_112 (pc := 88) h (gd_X10_1 h0) dX10_send_88 ?_
  refine zr_iload (pc := 91) h dX10_send_91 rfl ?_
  refine zr_aload_n (pc := 93) h dX10_send_93 rfl rfl ?_
  refine zf_X10_9 (pc := 94) h h0 dX10_send_94 ?_
  refine zf_X10_70 (pc := 97) h gkc_4 dX10_send_97 ?_
  refine zr_iload_n (pc := 100) h dX10_send_100 rfl rfl ?_
  obtain ⟨q7, hf⟩ := zCk_s hf
  refine zr_iald (pc := 101) h gkc_7 q7 rfl dX10_send_101 ?_
  obtain ⟨q8, hf⟩ := zCk_s hf
  refine zr_iast (pc := 102) h (gd_X9_18 (gd_X10_1 h0)) q8 rfl dX10_send_102 ?_
  refine zr_mu h (fun μ9 eμ9 => ?_)
  have hf := zLt_s eμ9 hf
  refine zr_aload_n (pc := 103) h dX10_send_103 rfl rfl ?_
  refine zf_X10_15 (pc := 104) h h0 dX10_send_104 ?_
  refine zr_dup (pc := 107) h dX10_send_107 rfl ?_
  refine zf_X10_118 (pc := 108) h (gd_X10_1 h0) dX10_send_108 ?_
  refine zr_iconst (pc := 111) (v := (1 : Int32)) h dX10_send_111 (by decide) ?_
  refine zr_iadd (pc := 112) h dX10_send_112 ?_
  refine zp_X10_118 (pc := 113) h (gd_X10_1 h0) dX10_send_113 ?_
  refine zr_mu h (fun μ10 eμ10 => ?_)
  have hf := zLt_s eμ10 hf
  refine zr_iload_n (pc := 116) h dX10_send_116 rfl rfl ?_
  refine zr_iconst (pc := 117) (v := (1 : Int32)) h dX10_send_117 (by decide) ?_
  refine zr_iload (pc := 118) h dX10_send_118 rfl ?_
  refine zr_ishl (pc := 120) h dX10_send_120 ?_
  refine zr_ior (pc := 121) h dX10_send_121 ?_
  refine zr_topi h (fun x11 ex11 => ?_)
  have hf := zLt_s ex11 hf
  refine zr_istore_n (pc := 122) h dX10_send_122 rfl (by decide) rfl ?_
  refine zr_iincx (pc := 123) h dX10_send_123 rfl (by decide) rfl (c := (1 : Int32)) (by decide) (fun x12 ex12 => ?_)
  have hf := zLt_s ex12 hf
  refine zr_goto (pc := 126) (tgt := 23) h dX10_send_126 rfl ?_
  exact zr_weak h [true, true, true, true, true, false] (hk23 _ _ _ _ _ hf)

set_option maxRecDepth 100000 in
set_option maxHeartbeats 4000000 in
theorem fX10_send_l23_ok {l : Launch} {g : gG} {p0 : Nat} {r : Int32} {ν : gM} {K : gKt} (h : gR l g cX10_send RX10 6 (some .int) (gRm 2 48) (some (.int r)) ν K) (h0 : gk (p0 + 14) = (0, 10)) : ∀ (n : Nat) (y1 : Int32) (y2 : Int32) (y3 : Int32) (y4 : Int32) (μ : gM), fX10_send_l23 p0 n y1 y2 y3 y4 μ = some (r, ν) → K 23 [some (.ref (g.1 + (p0 + 14))), some (.int y1), some (.int y2), some (.int y3), some (.int y4), none] [] μ := by
  intro n
  induction n with
  | zero =>
    intro y1 y2 y3 y4 μ hf
    cases (show (none : Option (Int32 × gM)) = some _ from hf)
  | succ n ih =>
    intro y1 y2 y3 y4 μ hf
    unfold fX10_send_l23 at hf
    refine zr_iload (pc := 23) h dX10_send_23 rfl ?_
    refine zr_bipush (pc := 25) (v := (6 : Int32)) h dX10_send_25 (by decide) ?_
    have hf := zIf_s hf
    refine zr_icmp_ge (pc := 27) (tgt := 129) h dX10_send_27 rfl (fun b18 => ?_) (fun b18 => ?_)
    · have hf := hf.1 b18
      refine zr_iload_n (pc := 129) h dX10_send_129 rfl rfl ?_
      exact zr_iret (pc := 130) h dX10_send_130 (zRp hf).1 (zRp hf).2
    · have hf := hf.2 b18
      refine zr_iload_n (pc := 30) h dX10_send_30 rfl rfl ?_
      refine zr_bipush (pc := 31) (v := (6 : Int32)) h dX10_send_31 (by decide) ?_
      refine zr_imul (pc := 33) h dX10_send_33 ?_
      refine zr_iload (pc := 34) h dX10_send_34 rfl ?_
      refine zr_iadd (pc := 36) h dX10_send_36 ?_
      refine zr_topi h (fun x3 ex3 => ?_)
      have hf := zLt_s ex3 hf
      refine zr_istore (pc := 37) h dX10_send_37 (by decide) rfl ?_
      refine zr_iload_n (pc := 39) h dX10_send_39 rfl rfl ?_
      refine zr_iload (pc := 40) h dX10_send_40 rfl ?_
      refine zr_ishr (pc := 42) h dX10_send_42 ?_
      refine zr_iconst (pc := 43) (v := (1 : Int32)) h dX10_send_43 (by decide) ?_
      refine zr_iand (pc := 44) h dX10_send_44 ?_
      have hf := zIf_s hf
      refine zr_if_eq (pc := 45) (tgt := 123) h dX10_send_45 rfl (fun b17 => ?_) (fun b17 => ?_)
      · have hf := hf.1 b17
        refine zr_iincx (pc := 123) h dX10_send_123 rfl (by decide) rfl (c := (1 : Int32)) (by decide) (fun x4 ex4 => ?_)
        have hf := zLt_s ex4 hf
        refine zr_goto (pc := 126) (tgt := 23) h dX10_send_126 rfl ?_
        exact zr_weak h [true, true, true, true, true, false] (ih _ _ _ _ _ hf)
      · have hf := hf.2 b17
        refine zr_aload_n (pc := 48) h dX10_send_48 rfl rfl ?_
        refine zf_X10_15 (pc := 49) h h0 dX10_send_49 ?_
        refine zf_X10_112 (pc := 52) h (gd_X10_1 h0) dX10_send_52 ?_
        refine zr_iload (pc := 55) h dX10_send_55 rfl ?_
        obtain ⟨q5, hf⟩ := zCk_s hf
        refine zr_iald (pc := 57) h (gd_X9_18 (gd_X10_1 h0)) q5 rfl dX10_send_57 ?_
        have hf := zIf_s hf
        refine zr_if_le (pc := 58) (tgt := 64) h dX10_send_58 rfl (fun b16 => ?_) (fun b16 => ?_)
        · have hf := hf.1 b16
          refine zr_aload_n (pc := 64) h dX10_send_64 rfl rfl ?_
          refine zf_X10_15 (pc := 65) h h0 dX10_send_65 ?_
          refine zr_iload_n (pc := 68) h dX10_send_68 rfl rfl ?_
          refine zr_iload (pc := 69) h dX10_send_69 rfl ?_
          obtain ⟨x6, ex6, hf⟩ := zBd_s hf
          refine zm_X10_90 (pc := 71) h (gd_X10_1 h0) ⟨by decide, by decide⟩ (cX9_isHeld_ok (gd_X10_1 h0) ex6) rfl (Nat.le_of_ble_eq_true rfl) dX10_send_71 rfl ?_
          have hf := zIf_s hf
          refine zr_if_ne (pc := 74) (tgt := 84) h dX10_send_74 rfl (fun b14 => ?_) (fun b14 => ?_)
          · have hf := hf.2 b14
            exact zr_weak h [true, true, true, true, true, true] (fX10_send_n84_ok h h0 ih hf)
          · have hf := hf.1 b14
            refine zr_aload_n (pc := 77) h dX10_send_77 rfl rfl ?_
            refine zr_iload_n (pc := 78) h dX10_send_78 rfl rfl ?_
            refine zr_iload (pc := 79) h dX10_send_79 rfl ?_
            obtain ⟨μ13, eμ13, hf⟩ := zBd_s hf
            refine zm_X10_83 (pc := 81) h h0 ⟨by decide, by decide⟩ (cX10_hold_ok h0 eμ13) rfl (Nat.le_of_ble_eq_true rfl) dX10_send_81 rfl ?_
            exact zr_weak h [true, true, true, true, true, true] (fX10_send_n84_ok h h0 ih hf)
        · have hf := hf.2 b16
          refine zr_goto (pc := 61) (tgt := 123) h dX10_send_61 rfl ?_
          refine zr_iincx (pc := 123) h dX10_send_123 rfl (by decide) rfl (c := (1 : Int32)) (by decide) (fun x15 ex15 => ?_)
          have hf := zLt_s ex15 hf
          refine zr_goto (pc := 126) (tgt := 23) h dX10_send_126 rfl ?_
          exact zr_weak h [true, true, true, true, true, false] (ih _ _ _ _ _ hf)

set_option maxRecDepth 100000 in
set_option maxHeartbeats 4000000 in
theorem cX10_send_ok {l : Launch} {g : gG} {p0 : Nat} {a1 : Int32} {μ : gM} {r : Int32} {ν : gM} (h0 : gk (p0 + 14) = (0, 10)) (hf : fX10_send p0 a1 μ = some (r, ν)) : gMet l g yX10_send cX10_send 6 (some .int) 2 48 [.ref (g.1 + (p0 + 14)), .int a1] μ (some (.int r)) ν := by
  refine gMet_of (gIni [.ref (g.1 + (p0 + 14)), .int a1] ++ List.replicate 4 none) (by decide) (gIni_ok _ _) (Nat.le_of_ble_eq_true rfl) (fun K h => ?_)
  show K 0 [some (.ref (g.1 + (p0 + 14))), some (.int a1), none, none, none, none] [] μ
  unfold fX10_send at hf
  refine zr_iconst (pc := 0) (v := (0 : Int32)) h dX10_send_0 (by decide) ?_
  refine zr_istore_n (pc := 1) h dX10_send_1 rfl (by decide) rfl ?_
  refine zr_aload_n (pc := 2) h dX10_send_2 rfl rfl ?_
  refine zf_X10_9 (pc := 3) h h0 dX10_send_3 ?_
  refine zf_X10_80 (pc := 6) h gkc_4 dX10_send_6 ?_
  refine zr_iload_n (pc := 9) h dX10_send_9 rfl rfl ?_
  obtain ⟨q1, hf⟩ := zCk_s hf
  refine zr_iald (pc := 10) h gkc_11 q1 rfl dX10_send_10 ?_
  refine zr_aload_n (pc := 11) h dX10_send_11 rfl rfl ?_
  refine zf_X10_15 (pc := 12) h h0 dX10_send_12 ?_
  refine zf_X10_77 (pc := 15) h (gd_X10_1 h0) dX10_send_15 ?_
  refine zr_iand (pc := 18) h dX10_send_18 ?_
  refine zr_topi h (fun x2 ex2 => ?_)
  have hf := zLt_s ex2 hf
  refine zr_istore_n (pc := 19) h dX10_send_19 rfl (by decide) rfl ?_
  refine zr_iconst (pc := 20) (v := (0 : Int32)) h dX10_send_20 (by decide) ?_
  refine zr_istore (pc := 21) h dX10_send_21 (by decide) rfl ?_
  exact zr_weak h [true, true, true, true, true, false] (fX10_send_l23_ok h h0 100000 _ _ _ _ _ hf)

set_option maxRecDepth 100000 in
set_option maxHeartbeats 4000000 in
theorem fX10_isLost_n68_ok {l : Launch} {g : gG} {p0 : Nat} {r : Int32} {ν : gM} {K : gKt} (h : gR l g cX10_isLost RX10 2 (some .boolean) (gRm 0 0) (some (.int r)) ν K) (h0 : gk (p0 + 14) = (0, 10)) {z0 : Int32} {μ : gM} (hf : fX10_isLost_n68 p0 z0 μ = some (r, ν)) : K 68 [some (.ref (g.1 + (p0 + 14))), none] [.int z0] μ := by
  unfold fX10_isLost_n68 at hf
  refine zr_istore_n (pc := 68) h dX10_isLost_68 rfl (by decide) rfl ?_
  refine zr_aload_n (pc := 69) h dX10_isLost_69 rfl rfl ?_
  refine zf_X10_15 (pc := 70) h h0 dX10_isLost_70 ?_
  refine zr_dup (pc := 73) h dX10_isLost_73 rfl ?_
  refine zf_X10_215 (pc := 74) h (gd_X10_1 h0) dX10_isLost_74 ?_
  refine zr_iload_n (pc := 77) h dX10_isLost_77 rfl rfl ?_
  have hf := zIf_s hf
  refine zr_if_eq (pc := 78) (tgt := 85) h dX10_isLost_78 rfl (fun b6 => ?_) (fun b6 => ?_)
  · have hf := hf.1 b6
    refine zr_iconst (pc := 85) (v := (0 : Int32)) h dX10_isLost_85 (by decide) ?_
    refine zr_iadd (pc := 86) h dX10_isLost_86 ?_
    refine zp_X10_215 (pc := 87) h (gd_X10_1 h0) dX10_isLost_87 ?_
    refine zr_mu h (fun μ2 eμ2 => ?_)
    have hf := zLt_s eμ2 hf
    refine zr_iload_n (pc := 90) h dX10_isLost_90 rfl rfl ?_
    obtain ⟨q3, hf⟩ := zCk_s hf
    exact zr_zret (pc := 91) h (zBoo q3) dX10_isLost_91 (zRp hf).1 (zRp hf).2
  · have hf := hf.2 b6
    refine zr_iconst (pc := 81) (v := (1 : Int32)) h dX10_isLost_81 (by decide) ?_
    refine zr_goto (pc := 82) (tgt := 86) h dX10_isLost_82 rfl ?_
    refine zr_iadd (pc := 86) h dX10_isLost_86 ?_
    refine zp_X10_215 (pc := 87) h (gd_X10_1 h0) dX10_isLost_87 ?_
    refine zr_mu h (fun μ4 eμ4 => ?_)
    have hf := zLt_s eμ4 hf
    refine zr_iload_n (pc := 90) h dX10_isLost_90 rfl rfl ?_
    obtain ⟨q5, hf⟩ := zCk_s hf
    exact zr_zret (pc := 91) h (zBoo q5) dX10_isLost_91 (zRp hf).1 (zRp hf).2

set_option maxRecDepth 100000 in
set_option maxHeartbeats 4000000 in
theorem cX10_isLost_ok {l : Launch} {g : gG} {p0 : Nat} {μ : gM} {r : Int32} {ν : gM} (h0 : gk (p0 + 14) = (0, 10)) (hf : fX10_isLost p0 μ = some (r, ν)) : gMet l g yX10_isLost cX10_isLost 2 (some .boolean) 0 0 [.ref (g.1 + (p0 + 14))] μ (some (.int r)) ν := by
  refine gMet_of (gIni [.ref (g.1 + (p0 + 14))] ++ List.replicate 1 none) (by decide) (gIni_ok _ _) (Nat.le_of_ble_eq_true rfl) (fun K h => ?_)
  show K 0 [some (.ref (g.1 + (p0 + 14))), none] [] μ
  unfold fX10_isLost at hf
  refine zr_aload_n (pc := 0) h dX10_isLost_0 rfl rfl ?_
  refine zf_X10_15 (pc := 1) h h0 dX10_isLost_1 ?_
  refine zf_X10_203 (pc := 4) h (gd_X10_1 h0) dX10_isLost_4 ?_
  have hf := zIf_s hf
  refine zr_if_ne (pc := 7) (tgt := 12) h dX10_isLost_7 rfl (fun b8 => ?_) (fun b8 => ?_)
  · have hf := hf.2 b8
    refine zr_aload_n (pc := 12) h dX10_isLost_12 rfl rfl ?_
    refine zf_X10_15 (pc := 13) h h0 dX10_isLost_13 ?_
    refine zr_ldc2 (pc := 16) h zw_1080 dX10_isLost_16 ?_
    refine zr_aload_n (pc := 19) h dX10_isLost_19 rfl rfl ?_
    refine zf_X10_15 (pc := 20) h h0 dX10_isLost_20 ?_
    refine zf_X10_208 (pc := 23) h (gd_X10_1 h0) dX10_isLost_23 ?_
    refine zr_i2l (pc := 26) h dX10_isLost_26 ?_
    refine zr_lmul (pc := 27) h dX10_isLost_27 ?_
    refine zr_ldc2 (pc := 28) h zw_1081 dX10_isLost_28 ?_
    refine zr_ladd (pc := 31) h dX10_isLost_31 ?_
    refine zr_ldc2 (pc := 32) h zw_1082 dX10_isLost_32 ?_
    refine zr_land (pc := 35) h dX10_isLost_35 ?_
    refine zr_l2i (pc := 36) h dX10_isLost_36 ?_
    refine zp_X10_208 (pc := 37) h (gd_X10_1 h0) dX10_isLost_37 ?_
    refine zr_mu h (fun μ1 eμ1 => ?_)
    have hf := zLt_s eμ1 hf
    refine zr_aload_n (pc := 40) h dX10_isLost_40 rfl rfl ?_
    refine zf_X10_15 (pc := 41) h h0 dX10_isLost_41 ?_
    refine zf_X10_208 (pc := 44) h (gd_X10_1 h0) dX10_isLost_44 ?_
    refine zr_bipush (pc := 47) (v := (64 : Int32)) h dX10_isLost_47 (by decide) ?_
    refine zr_idiv (pc := 49) h dX10_isLost_49 (by decide) ?_
    refine zr_bipush (pc := 50) (v := (100 : Int32)) h dX10_isLost_50 (by decide) ?_
    refine zr_irem (pc := 52) h dX10_isLost_52 (by decide) ?_
    refine zr_aload_n (pc := 53) h dX10_isLost_53 rfl rfl ?_
    refine zf_X10_15 (pc := 54) h h0 dX10_isLost_54 ?_
    refine zf_X10_203 (pc := 57) h (gd_X10_1 h0) dX10_isLost_57 ?_
    have hf := zIf_s hf
    refine zr_icmp_ge (pc := 60) (tgt := 67) h dX10_isLost_60 rfl (fun b7 => ?_) (fun b7 => ?_)
    · have hf := hf.1 b7
      refine zr_iconst (pc := 67) (v := (0 : Int32)) h dX10_isLost_67 (by decide) ?_
      exact zr_weak h [true, false] (fX10_isLost_n68_ok h h0 hf)
    · have hf := hf.2 b7
      refine zr_iconst (pc := 63) (v := (1 : Int32)) h dX10_isLost_63 (by decide) ?_
      refine zr_goto (pc := 64) (tgt := 68) h dX10_isLost_64 rfl ?_
      exact zr_weak h [true, false] (fX10_isLost_n68_ok h h0 hf)
  · have hf := hf.1 b8
    refine zr_iconst (pc := 10) (v := (0 : Int32)) h dX10_isLost_10 (by decide) ?_
    exact zr_zret (pc := 11) h rfl dX10_isLost_11 (zRp hf).1 (zRp hf).2

set_option maxRecDepth 100000 in
set_option maxHeartbeats 4000000 in
theorem cX10_giveUp_ok {l : Launch} {g : gG} {p0 : Nat} {a1 : Int32} {a2 : Int32} {μ : gM} {ν : gM} (h0 : gk (p0 + 14) = (0, 10)) (hf : fX10_giveUp p0 a1 a2 μ = some ν) : gMet l g yX10_giveUp cX10_giveUp 3 none 1 25 [.ref (g.1 + (p0 + 14)), .int a1, .int a2] μ none ν := by
  refine gMet_of (gIni [.ref (g.1 + (p0 + 14)), .int a1, .int a2] ++ List.replicate 0 none) (by decide) (gIni_ok _ _) (Nat.le_of_ble_eq_true rfl) (fun K h => ?_)
  show K 0 [some (.ref (g.1 + (p0 + 14))), some (.int a1), some (.int a2)] [] μ
  unfold fX10_giveUp at hf
  refine zr_aload_n (pc := 0) h dX10_giveUp_0 rfl rfl ?_
  refine zf_X10_15 (pc := 1) h h0 dX10_giveUp_1 ?_
  refine zf_X10_93 (pc := 4) h (gd_X10_1 h0) dX10_giveUp_4 ?_
  refine zr_iload_n (pc := 7) h dX10_giveUp_7 rfl rfl ?_
  refine zr_dup2 (pc := 8) h dX10_giveUp_8 rfl rfl ?_
  obtain ⟨q1, hf⟩ := zCk_s hf
  refine zr_iald (pc := 9) h (gd_X9_11 (gd_X10_1 h0)) q1 rfl dX10_giveUp_9 ?_
  refine zr_iconst (pc := 10) (v := (1 : Int32)) h dX10_giveUp_10 (by decide) ?_
  refine zr_iload_n (pc := 11) h dX10_giveUp_11 rfl rfl ?_
  refine zr_ishl (pc := 12) h dX10_giveUp_12 ?_
  refine zr_iconst (pc := 13) (v := (-1 : Int32)) h dX10_giveUp_13 (by decide) ?_
  refine zr_ixor (pc := 14) h dX10_giveUp_14 ?_
  refine zr_iand (pc := 15) h dX10_giveUp_15 ?_
  obtain ⟨q2, hf⟩ := zCk_s hf
  refine zr_iast (pc := 16) h (gd_X9_11 (gd_X10_1 h0)) q2 rfl dX10_giveUp_16 ?_
  refine zr_mu h (fun μ3 eμ3 => ?_)
  have hf := zLt_s eμ3 hf
  refine zr_aload_n (pc := 17) h dX10_giveUp_17 rfl rfl ?_
  refine zr_dup (pc := 18) h dX10_giveUp_18 rfl ?_
  refine zf_X10_137 (pc := 19) h h0 dX10_giveUp_19 ?_
  refine zr_iconst (pc := 22) (v := (1 : Int32)) h dX10_giveUp_22 (by decide) ?_
  refine zr_iadd (pc := 23) h dX10_giveUp_23 ?_
  refine zp_X10_137 (pc := 24) h h0 dX10_giveUp_24 ?_
  refine zr_mu h (fun μ4 eμ4 => ?_)
  have hf := zLt_s eμ4 hf
  refine zr_aload_n (pc := 27) h dX10_giveUp_27 rfl rfl ?_
  refine zf_X10_15 (pc := 28) h h0 dX10_giveUp_28 ?_
  refine zf_X10_96 (pc := 31) h (gd_X10_1 h0) dX10_giveUp_31 ?_
  refine zr_aload_n (pc := 34) h dX10_giveUp_34 rfl rfl ?_
  refine zf_X10_15 (pc := 35) h h0 dX10_giveUp_35 ?_
  refine zf_X10_100 (pc := 38) h (gd_X10_1 h0) dX10_giveUp_38 ?_
  refine zr_iload_n (pc := 41) h dX10_giveUp_41 rfl rfl ?_
  refine zr_iload_n (pc := 42) h dX10_giveUp_42 rfl rfl ?_
  refine zr_iconst (pc := 43) (v := (1 : Int32)) h dX10_giveUp_43 (by decide) ?_
  obtain ⟨μ5, eμ5, hf⟩ := zBd_s hf
  refine zm_X10_103 (pc := 44) h (gd_X9_10 (gd_X10_1 h0)) ⟨by decide, by decide⟩ (cX0_add_ok (gd_X9_10 (gd_X10_1 h0)) eμ5) rfl (Nat.le_of_ble_eq_true rfl) dX10_giveUp_44 rfl ?_
  exact zr_vret (pc := 47) h dX10_giveUp_47 rfl (zRv hf)

set_option maxRecDepth 100000 in
set_option maxHeartbeats 4000000 in
theorem fX10_readLetter_n117_ok {l : Launch} {g : gG} {p0 : Nat} {ν : gM} {K : gKt} (h : gR l g cX10_readLetter RX10 8 none (gRm 2 48) none ν K) (h0 : gk (p0 + 14) = (0, 10)) {y1 : Int32} {y3 : Int32} {μ : gM} (hf : fX10_readLetter_n117 p0 y1 y3 μ = some ν) : K 117 [some (.ref (g.1 + (p0 + 14))), some (.int y1), none, some (.int y3), none, none, none, none] [] μ := by
  unfold fX10_readLetter_n117 at hf
  refine zr_aload_n (pc := 117) h dX10_readLetter_117 rfl rfl ?_
  refine zr_iload_n (pc := 118) h dX10_readLetter_118 rfl rfl ?_
  refine zr_iload_n (pc := 119) h dX10_readLetter_119 rfl rfl ?_
  obtain ⟨μ6, eμ6, hf⟩ := zBd_s hf
  refine zm_X10_87 (pc := 120) h h0 ⟨by decide, by decide⟩ (cX10_await_ok h0 eμ6) rfl (Nat.le_of_ble_eq_true rfl) dX10_readLetter_120 rfl ?_
  exact zr_vret (pc := 123) h dX10_readLetter_123 rfl (zRv hf)

set_option maxRecDepth 100000 in
set_option maxHeartbeats 4000000 in
theorem fX10_readLetter_n155_ok {l : Launch} {g : gG} {p0 : Nat} {ν : gM} {K : gKt} (h : gR l g cX10_readLetter RX10 8 none (gRm 2 48) none ν K) (h0 : gk (p0 + 14) = (0, 10)) {y1 : Int32} {y3 : Int32} {y4 : Int32} {μ : gM} (hf : fX10_readLetter_n155 p0 y1 y3 y4 μ = some ν) : K 155 [some (.ref (g.1 + (p0 + 14))), some (.int y1), none, some (.int y3), some (.int y4), none, none, none] [] μ := by
  unfold fX10_readLetter_n155 at hf
  refine zr_aload_n (pc := 155) h dX10_readLetter_155 rfl rfl ?_
  refine zf_X10_15 (pc := 156) h h0 dX10_readLetter_156 ?_
  refine zf_X10_100 (pc := 159) h (gd_X10_1 h0) dX10_readLetter_159 ?_
  refine zr_aload_n (pc := 162) h dX10_readLetter_162 rfl rfl ?_
  refine zf_X10_15 (pc := 163) h h0 dX10_readLetter_163 ?_
  refine zf_X10_115 (pc := 166) h (gd_X10_1 h0) dX10_readLetter_166 ?_
  refine zr_iload (pc := 169) h dX10_readLetter_169 rfl ?_
  obtain ⟨q9, hf⟩ := zCk_s hf
  refine zr_iald (pc := 171) h (gd_X9_19 (gd_X10_1 h0)) q9 rfl dX10_readLetter_171 ?_
  refine zr_isub (pc := 172) h dX10_readLetter_172 ?_
  refine zr_aload_n (pc := 173) h dX10_readLetter_173 rfl rfl ?_
  refine zf_X10_9 (pc := 174) h h0 dX10_readLetter_174 ?_
  refine zf_X10_224 (pc := 177) h gkc_4 dX10_readLetter_177 ?_
  refine zr_iload_n (pc := 180) h dX10_readLetter_180 rfl rfl ?_
  obtain ⟨q10, hf⟩ := zCk_s hf
  refine zr_iald (pc := 181) h gkc_8 q10 rfl dX10_readLetter_181 ?_
  have hf := zIf_s hf
  refine zr_icmp_lt (pc := 182) (tgt := 194) h dX10_readLetter_182 rfl (fun b16 => ?_) (fun b16 => ?_)
  · have hf := hf.1 b16
    refine zr_aload_n (pc := 194) h dX10_readLetter_194 rfl rfl ?_
    refine zf_X10_15 (pc := 195) h h0 dX10_readLetter_195 ?_
    refine zf_X10_112 (pc := 198) h (gd_X10_1 h0) dX10_readLetter_198 ?_
    refine zr_iload (pc := 201) h dX10_readLetter_201 rfl ?_
    refine zr_aload_n (pc := 203) h dX10_readLetter_203 rfl rfl ?_
    refine zf_X10_9 (pc := 204) h h0 dX10_readLetter_204 ?_
    refine zr_iload_n (pc := 207) h dX10_readLetter_207 rfl rfl ?_
    refine zr_aload_n (pc := 208) h dX10_readLetter_208 rfl rfl ?_
    refine zf_X10_15 (pc := 209) h h0 dX10_readLetter_209 ?_
    refine zf_X10_67 (pc := 212) h (gd_X10_1 h0) dX10_readLetter_212 ?_
    refine zr_iload (pc := 215) h dX10_readLetter_215 rfl ?_
    obtain ⟨q11, hf⟩ := zCk_s hf
    refine zr_iald (pc := 217) h (gd_X9_17 (gd_X10_1 h0)) q11 rfl dX10_readLetter_217 ?_
    obtain ⟨x12, ex12, hf⟩ := zBd_s hf
    refine zm_X10_140 (pc := 218) h gkc_4 ⟨by decide, by decide⟩ (cX1_patience_ok gkc_4 ex12) rfl (Nat.le_of_ble_eq_true rfl) dX10_readLetter_218 rfl ?_
    obtain ⟨q13, hf⟩ := zCk_s hf
    refine zr_iast (pc := 221) h (gd_X9_18 (gd_X10_1 h0)) q13 rfl dX10_readLetter_221 ?_
    refine zr_mu h (fun μ14 eμ14 => ?_)
    have hf := zLt_s eμ14 hf
    exact zr_vret (pc := 222) h dX10_readLetter_222 rfl (zRv hf)
  · have hf := hf.2 b16
    refine zr_aload_n (pc := 185) h dX10_readLetter_185 rfl rfl ?_
    refine zr_iload_n (pc := 186) h dX10_readLetter_186 rfl rfl ?_
    refine zr_iload_n (pc := 187) h dX10_readLetter_187 rfl rfl ?_
    obtain ⟨μ15, eμ15, hf⟩ := zBd_s hf
    refine zm_X10_83 (pc := 188) h h0 ⟨by decide, by decide⟩ (cX10_hold_ok h0 eμ15) rfl (Nat.le_of_ble_eq_true rfl) dX10_readLetter_188 rfl ?_
    refine zr_goto (pc := 191) (tgt := 222) h dX10_readLetter_191 rfl ?_
    exact zr_vret (pc := 222) h dX10_readLetter_222 rfl (zRv hf)

set_option maxRecDepth 100000 in
set_option maxHeartbeats 4000000 in
theorem fX10_readLetter_n99_ok {l : Launch} {g : gG} {p0 : Nat} {ν : gM} {K : gKt} (h : gR l g cX10_readLetter RX10 8 none (gRm 2 48) none ν K) (h0 : gk (p0 + 14) = (0, 10)) {y1 : Int32} {y3 : Int32} {y4 : Int32} {y6 : Int32} {μ : gM} (hf : fX10_readLetter_n99 p0 y1 y3 y4 y6 μ = some ν) : K 99 [some (.ref (g.1 + (p0 + 14))), some (.int y1), none, some (.int y3), some (.int y4), none, some (.int y6), none] [] μ := by
  unfold fX10_readLetter_n99 at hf
  refine zr_iload (pc := 99) h dX10_readLetter_99 rfl ?_
  have hf := zIf_s hf
  refine zr_if_ne (pc := 101) (tgt := 117) h dX10_readLetter_101 rfl (fun b21 => ?_) (fun b21 => ?_)
  · have hf := hf.2 b21
    exact zr_weak h [true, true, false, true, false, false, false, false] (fX10_readLetter_n117_ok h h0 hf)
  · have hf := hf.1 b21
    refine zr_aload_n (pc := 104) h dX10_readLetter_104 rfl rfl ?_
    refine zf_X10_9 (pc := 105) h h0 dX10_readLetter_105 ?_
    refine zf_X10_221 (pc := 108) h gkc_4 dX10_readLetter_108 ?_
    refine zr_iload_n (pc := 111) h dX10_readLetter_111 rfl rfl ?_
    obtain ⟨q7, hf⟩ := zCk_s hf
    refine zr_iald (pc := 112) h gkc_9 q7 rfl dX10_readLetter_112 ?_
    refine zr_iconst (pc := 113) (v := (1 : Int32)) h dX10_readLetter_113 (by decide) ?_
    have hf := zIf_s hf
    refine zr_icmp_ne (pc := 114) (tgt := 124) h dX10_readLetter_114 rfl (fun b20 => ?_) (fun b20 => ?_)
    · have hf := hf.2 b20
      refine zr_aload_n (pc := 124) h dX10_readLetter_124 rfl rfl ?_
      refine zf_X10_15 (pc := 125) h h0 dX10_readLetter_125 ?_
      refine zf_X10_115 (pc := 128) h (gd_X10_1 h0) dX10_readLetter_128 ?_
      refine zr_iload (pc := 131) h dX10_readLetter_131 rfl ?_
      obtain ⟨q8, hf⟩ := zCk_s hf
      refine zr_iald (pc := 133) h (gd_X9_19 (gd_X10_1 h0)) q8 rfl dX10_readLetter_133 ?_
      refine zr_iconst (pc := 134) (v := (-1 : Int32)) h dX10_readLetter_134 (by decide) ?_
      have hf := zIf_s hf
      refine zr_icmp_ne (pc := 135) (tgt := 155) h dX10_readLetter_135 rfl (fun b19 => ?_) (fun b19 => ?_)
      · have hf := hf.2 b19
        exact zr_weak h [true, true, false, true, true, false, false, false] (fX10_readLetter_n155_ok h h0 hf)
      · have hf := hf.1 b19
        refine zr_aload_n (pc := 138) h dX10_readLetter_138 rfl rfl ?_
        refine zf_X10_15 (pc := 139) h h0 dX10_readLetter_139 ?_
        refine zf_X10_115 (pc := 142) h (gd_X10_1 h0) dX10_readLetter_142 ?_
        refine zr_iload (pc := 145) h dX10_readLetter_145 rfl ?_
        refine zr_aload_n (pc := 147) h dX10_readLetter_147 rfl rfl ?_
        refine zf_X10_15 (pc := 148) h h0 dX10_readLetter_148 ?_
        refine zf_X10_100 (pc := 151) h (gd_X10_1 h0) dX10_readLetter_151 ?_
        obtain ⟨q17, hf⟩ := zCk_s hf
        refine zr_iast (pc := 154) h (gd_X9_19 (gd_X10_1 h0)) q17 rfl dX10_readLetter_154 ?_
        refine zr_mu h (fun μ18 eμ18 => ?_)
        have hf := zLt_s eμ18 hf
        exact zr_weak h [true, true, false, true, true, false, false, false] (fX10_readLetter_n155_ok h h0 hf)
    · have hf := hf.1 b20
      exact zr_weak h [true, true, false, true, false, false, false, false] (fX10_readLetter_n117_ok h h0 hf)

set_option maxRecDepth 100000 in
set_option maxHeartbeats 4000000 in
theorem fX10_readLetter_n88_ok {l : Launch} {g : gG} {p0 : Nat} {ν : gM} {K : gKt} (h : gR l g cX10_readLetter RX10 8 none (gRm 2 48) none ν K) (h0 : gk (p0 + 14) = (0, 10)) {y1 : Int32} {y3 : Int32} {y4 : Int32} {y6 : Int32} {y7 : Int32} {μ : gM} (hf : fX10_readLetter_n88 p0 y1 y3 y4 y6 y7 μ = some ν) : K 88 [some (.ref (g.1 + (p0 + 14))), some (.int y1), none, some (.int y3), some (.int y4), none, some (.int y6), some (.int y7)] [] μ := by
  unfold fX10_readLetter_n88 at hf
  refine zr_iload (pc := 88) h dX10_readLetter_88 rfl ?_
  have hf := zIf_s hf
  refine zr_if_eq (pc := 90) (tgt := 99) h dX10_readLetter_90 rfl (fun b23 => ?_) (fun b23 => ?_)
  · have hf := hf.1 b23
    exact zr_weak h [true, true, false, true, true, false, true, false] (fX10_readLetter_n99_ok h h0 hf)
  · have hf := hf.2 b23
    refine zr_aload_n (pc := 93) h dX10_readLetter_93 rfl rfl ?_
    refine zr_iload_n (pc := 94) h dX10_readLetter_94 rfl rfl ?_
    refine zr_iload_n (pc := 95) h dX10_readLetter_95 rfl rfl ?_
    obtain ⟨μ22, eμ22, hf⟩ := zBd_s hf
    refine zm_X10_218 (pc := 96) h h0 ⟨by decide, by decide⟩ (cX10_giveUp_ok h0 eμ22) rfl (Nat.le_of_ble_eq_true rfl) dX10_readLetter_96 rfl ?_
    exact zr_weak h [true, true, false, true, true, false, true, false] (fX10_readLetter_n99_ok h h0 hf)

set_option maxRecDepth 100000 in
set_option maxHeartbeats 4000000 in
theorem fX10_readLetter_n64_ok {l : Launch} {g : gG} {p0 : Nat} {ν : gM} {K : gKt} (h : gR l g cX10_readLetter RX10 8 none (gRm 2 48) none ν K) (h0 : gk (p0 + 14) = (0, 10)) {y1 : Int32} {y3 : Int32} {y4 : Int32} {z0 : Int32} {μ : gM} (hf : fX10_readLetter_n64 p0 y1 y3 y4 z0 μ = some ν) : K 64 [some (.ref (g.1 + (p0 + 14))), some (.int y1), none, some (.int y3), some (.int y4), none, none, none] [.int z0] μ := by
  unfold fX10_readLetter_n64 at hf
  refine zr_istore (pc := 64) h dX10_readLetter_64 (by decide) rfl ?_
  refine zr_aload_n (pc := 66) h dX10_readLetter_66 rfl rfl ?_
  refine zf_X10_15 (pc := 67) h h0 dX10_readLetter_67 ?_
  refine zr_iload_n (pc := 70) h dX10_readLetter_70 rfl rfl ?_
  refine zr_iload_n (pc := 71) h dX10_readLetter_71 rfl rfl ?_
  obtain ⟨x5, ex5, hf⟩ := zBd_s hf
  refine zm_X10_90 (pc := 72) h (gd_X10_1 h0) ⟨by decide, by decide⟩ (cX9_isHeld_ok (gd_X10_1 h0) ex5) rfl (Nat.le_of_ble_eq_true rfl) dX10_readLetter_72 rfl ?_
  refine zr_istore (pc := 75) h dX10_readLetter_75 (by decide) rfl ?_
  refine zr_iload (pc := 77) h dX10_readLetter_77 rfl ?_
  have hf := zIf_s hf
  refine zr_if_eq (pc := 79) (tgt := 88) h dX10_readLetter_79 rfl (fun b25 => ?_) (fun b25 => ?_)
  · have hf := hf.1 b25
    exact zr_weak h [true, true, false, true, true, false, true, true] (fX10_readLetter_n88_ok h h0 hf)
  · have hf := hf.2 b25
    refine zr_iload (pc := 82) h dX10_readLetter_82 rfl ?_
    have hf := zIf_s hf
    refine zr_if_ne (pc := 84) (tgt := 88) h dX10_readLetter_84 rfl (fun b24 => ?_) (fun b24 => ?_)
    · have hf := hf.2 b24
      exact zr_weak h [true, true, false, true, true, false, true, true] (fX10_readLetter_n88_ok h h0 hf)
    · have hf := hf.1 b24
      exact zr_vret (pc := 87) h dX10_readLetter_87 rfl (zRv hf)

set_option maxRecDepth 100000 in
set_option maxHeartbeats 4000000 in
theorem fX10_readLetter_n59_ok {l : Launch} {g : gG} {p0 : Nat} {ν : gM} {K : gKt} (h : gR l g cX10_readLetter RX10 8 none (gRm 2 48) none ν K) (h0 : gk (p0 + 14) = (0, 10)) {y1 : Int32} {y3 : Int32} {y4 : Int32} {μ : gM} (hf : fX10_readLetter_n59 p0 y1 y3 y4 μ = some ν) : K 59 [some (.ref (g.1 + (p0 + 14))), some (.int y1), none, some (.int y3), some (.int y4), none, none, none] [] μ := by
  unfold fX10_readLetter_n59 at hf
  refine zr_iconst (pc := 59) (v := (1 : Int32)) h dX10_readLetter_59 (by decide) ?_
  refine zr_goto (pc := 60) (tgt := 64) h dX10_readLetter_60 rfl ?_
  exact zr_weak h [true, true, false, true, true, false, false, false] (fX10_readLetter_n64_ok h h0 hf)

set_option maxRecDepth 100000 in
set_option maxHeartbeats 4000000 in
theorem cX10_readLetter_ok {l : Launch} {g : gG} {p0 : Nat} {a1 : Int32} {a2 : Int32} {a3 : Int32} {μ : gM} {ν : gM} (h0 : gk (p0 + 14) = (0, 10)) (hf : fX10_readLetter p0 a1 a2 a3 μ = some ν) : gMet l g yX10_readLetter cX10_readLetter 8 none 2 48 [.ref (g.1 + (p0 + 14)), .int a1, .int a2, .int a3] μ none ν := by
  refine gMet_of (gIni [.ref (g.1 + (p0 + 14)), .int a1, .int a2, .int a3] ++ List.replicate 4 none) (by decide) (gIni_ok _ _) (Nat.le_of_ble_eq_true rfl) (fun K h => ?_)
  show K 0 [some (.ref (g.1 + (p0 + 14))), some (.int a1), some (.int a2), some (.int a3), none, none, none, none] [] μ
  unfold fX10_readLetter at hf
  refine zr_iload_n (pc := 0) h dX10_readLetter_0 rfl rfl ?_
  refine zr_bipush (pc := 1) (v := (6 : Int32)) h dX10_readLetter_1 (by decide) ?_
  refine zr_imul (pc := 3) h dX10_readLetter_3 ?_
  refine zr_iload_n (pc := 4) h dX10_readLetter_4 rfl rfl ?_
  refine zr_iadd (pc := 5) h dX10_readLetter_5 ?_
  refine zr_topi h (fun x1 ex1 => ?_)
  have hf := zLt_s ex1 hf
  refine zr_istore (pc := 6) h dX10_readLetter_6 (by decide) rfl ?_
  refine zr_aload_n (pc := 8) h dX10_readLetter_8 rfl rfl ?_
  refine zf_X10_15 (pc := 9) h h0 dX10_readLetter_9 ?_
  refine zf_X10_64 (pc := 12) h (gd_X10_1 h0) dX10_readLetter_12 ?_
  refine zr_iload_n (pc := 15) h dX10_readLetter_15 rfl rfl ?_
  refine zr_bipush (pc := 16) (v := (6 : Int32)) h dX10_readLetter_16 (by decide) ?_
  refine zr_imul (pc := 18) h dX10_readLetter_18 ?_
  refine zr_iload_n (pc := 19) h dX10_readLetter_19 rfl rfl ?_
  refine zr_iadd (pc := 20) h dX10_readLetter_20 ?_
  obtain ⟨q2, hf⟩ := zCk_s hf
  refine zr_iald (pc := 21) h (gd_X9_16 (gd_X10_1 h0)) q2 rfl dX10_readLetter_21 ?_
  refine zr_topi h (fun x3 ex3 => ?_)
  have hf := zLt_s ex3 hf
  refine zr_istore (pc := 22) h dX10_readLetter_22 (by decide) rfl ?_
  refine zr_iload (pc := 24) h dX10_readLetter_24 rfl ?_
  refine zr_aload_n (pc := 26) h dX10_readLetter_26 rfl rfl ?_
  refine zf_X10_15 (pc := 27) h h0 dX10_readLetter_27 ?_
  refine zf_X10_64 (pc := 30) h (gd_X10_1 h0) dX10_readLetter_30 ?_
  refine zr_iload (pc := 33) h dX10_readLetter_33 rfl ?_
  obtain ⟨q4, hf⟩ := zCk_s hf
  refine zr_iald (pc := 35) h (gd_X9_16 (gd_X10_1 h0)) q4 rfl dX10_readLetter_35 ?_
  have hf := zIf_s hf
  refine zr_icmp_gt (pc := 36) (tgt := 59) h dX10_readLetter_36 rfl (fun b29 => ?_) (fun b29 => ?_)
  · have hf := hf.1 b29
    exact zr_weak h [true, true, false, true, true, false, false, false] (fX10_readLetter_n59_ok h h0 hf)
  · have hf := hf.2 b29
    refine zr_iload (pc := 39) h dX10_readLetter_39 rfl ?_
    refine zr_aload_n (pc := 41) h dX10_readLetter_41 rfl rfl ?_
    refine zf_X10_15 (pc := 42) h h0 dX10_readLetter_42 ?_
    refine zf_X10_64 (pc := 45) h (gd_X10_1 h0) dX10_readLetter_45 ?_
    refine zr_iload (pc := 48) h dX10_readLetter_48 rfl ?_
    obtain ⟨q26, hf⟩ := zCk_s hf
    refine zr_iald (pc := 50) h (gd_X9_16 (gd_X10_1 h0)) q26 rfl dX10_readLetter_50 ?_
    have hf := zIf_s hf
    refine zr_icmp_ne (pc := 51) (tgt := 63) h dX10_readLetter_51 rfl (fun b28 => ?_) (fun b28 => ?_)
    · have hf := hf.2 b28
      refine zr_iconst (pc := 63) (v := (0 : Int32)) h dX10_readLetter_63 (by decide) ?_
      exact zr_weak h [true, true, false, true, true, false, false, false] (fX10_readLetter_n64_ok h h0 hf)
    · have hf := hf.1 b28
      refine zr_iload_n (pc := 54) h dX10_readLetter_54 rfl rfl ?_
      refine zr_iload_n (pc := 55) h dX10_readLetter_55 rfl rfl ?_
      have hf := zIf_s hf
      refine zr_icmp_le (pc := 56) (tgt := 63) h dX10_readLetter_56 rfl (fun b27 => ?_) (fun b27 => ?_)
      · have hf := hf.1 b27
        refine zr_iconst (pc := 63) (v := (0 : Int32)) h dX10_readLetter_63 (by decide) ?_
        exact zr_weak h [true, true, false, true, true, false, false, false] (fX10_readLetter_n64_ok h h0 hf)
      · have hf := hf.2 b27
        exact zr_weak h [true, true, false, true, true, false, false, false] (fX10_readLetter_n59_ok h h0 hf)

set_option maxRecDepth 100000 in
set_option maxHeartbeats 4000000 in
theorem fX10_deliver_l56_ok {l : Launch} {g : gG} {p0 : Nat} {k2 : Int32 → Int32 → Int32 → gM → Option gM} {ν : gM} {K : gKt} (h : gR l g cX10_deliver RX10 6 none (gRm 3 75) none ν K) (h0 : gk (p0 + 14) = (0, 10)) (hk2 : ∀ (y1 : Int32) (y2 : Int32) (y3 : Int32) (ν1 : gM), k2 y1 y2 y3 ν1 = some ν → K 2 [some (.ref (g.1 + (p0 + 14))), some (.int y1), some (.int y2), some (.int y3), none, none] [] ν1) : ∀ (n : Nat) (y1 : Int32) (y2 : Int32) (y3 : Int32) (y4 : Int32) (y5 : Int32) (μ : gM), fX10_deliver_l56 p0 k2 n y1 y2 y3 y4 y5 μ = some ν → K 56 [some (.ref (g.1 + (p0 + 14))), some (.int y1), some (.int y2), some (.int y3), some (.int y4), some (.int y5)] [] μ := by
  intro n
  induction n with
  | zero =>
    intro y1 y2 y3 y4 y5 μ hf
    cases (show (none : Option gM) = some _ from hf)
  | succ n ih =>
    intro y1 y2 y3 y4 y5 μ hf
    unfold fX10_deliver_l56 at hf
    refine zr_iload (pc := 56) h dX10_deliver_56 rfl ?_
    refine zr_bipush (pc := 58) (v := (6 : Int32)) h dX10_deliver_58 (by decide) ?_
    have hf := zIf_s hf
    refine zr_icmp_ge (pc := 60) (tgt := 95) h dX10_deliver_60 rfl (fun b13 => ?_) (fun b13 => ?_)
    · have hf := hf.1 b13
      refine zr_iincx (pc := 95) h dX10_deliver_95 rfl (by decide) rfl (c := (1 : Int32)) (by decide) (fun x4 ex4 => ?_)
      have hf := zLt_s ex4 hf
      refine zr_goto (pc := 98) (tgt := 2) h dX10_deliver_98 rfl ?_
      exact zr_weak h [true, true, true, true, false, false] (hk2 _ _ _ _ hf)
    · have hf := hf.2 b13
      refine zr_iload (pc := 63) h dX10_deliver_63 rfl ?_
      refine zr_iload (pc := 65) h dX10_deliver_65 rfl ?_
      refine zr_ishr (pc := 67) h dX10_deliver_67 ?_
      refine zr_iconst (pc := 68) (v := (1 : Int32)) h dX10_deliver_68 (by decide) ?_
      refine zr_iand (pc := 69) h dX10_deliver_69 ?_
      refine zr_iconst (pc := 70) (v := (1 : Int32)) h dX10_deliver_70 (by decide) ?_
      have hf := zIf_s hf
      refine zr_icmp_ne (pc := 71) (tgt := 89) h dX10_deliver_71 rfl (fun b12 => ?_) (fun b12 => ?_)
      · have hf := hf.2 b12
        refine zr_iincx (pc := 89) h dX10_deliver_89 rfl (by decide) rfl (c := (1 : Int32)) (by decide) (fun x5 ex5 => ?_)
        have hf := zLt_s ex5 hf
        refine zr_goto (pc := 92) (tgt := 56) h dX10_deliver_92 rfl ?_
        exact zr_weak h [true, true, true, true, true, true] (ih _ _ _ _ _ _ hf)
      · have hf := hf.1 b12
        refine zr_aload_n (pc := 74) h dX10_deliver_74 rfl rfl ?_
        obtain ⟨x6, μ7, ex6, hf⟩ := zBp_s hf
        refine zm_X10_196 (pc := 75) h h0 ⟨by decide, by decide⟩ (cX10_isLost_ok h0 ex6) rfl (Nat.le_of_ble_eq_true rfl) dX10_deliver_75 rfl ?_
        have hf := zIf_s hf
        refine zr_if_ne (pc := 78) (tgt := 89) h dX10_deliver_78 rfl (fun b11 => ?_) (fun b11 => ?_)
        · have hf := hf.2 b11
          refine zr_iincx (pc := 89) h dX10_deliver_89 rfl (by decide) rfl (c := (1 : Int32)) (by decide) (fun x8 ex8 => ?_)
          have hf := zLt_s ex8 hf
          refine zr_goto (pc := 92) (tgt := 56) h dX10_deliver_92 rfl ?_
          exact zr_weak h [true, true, true, true, true, true] (ih _ _ _ _ _ _ hf)
        · have hf := hf.1 b11
          refine zr_aload_n (pc := 81) h dX10_deliver_81 rfl rfl ?_
          refine zr_iload_n (pc := 82) h dX10_deliver_82 rfl rfl ?_
          refine zr_iload_n (pc := 83) h dX10_deliver_83 rfl rfl ?_
          refine zr_iload (pc := 84) h dX10_deliver_84 rfl ?_
          obtain ⟨μ9, eμ9, hf⟩ := zBd_s hf
          refine zm_X10_200 (pc := 86) h h0 ⟨by decide, by decide⟩ (cX10_readLetter_ok h0 eμ9) rfl (Nat.le_of_ble_eq_true rfl) dX10_deliver_86 rfl ?_
          refine zr_iincx (pc := 89) h dX10_deliver_89 rfl (by decide) rfl (c := (1 : Int32)) (by decide) (fun x10 ex10 => ?_)
          have hf := zLt_s ex10 hf
          refine zr_goto (pc := 92) (tgt := 56) h dX10_deliver_92 rfl ?_
          exact zr_weak h [true, true, true, true, true, true] (ih _ _ _ _ _ _ hf)

set_option maxRecDepth 100000 in
set_option maxHeartbeats 4000000 in
theorem fX10_deliver_l2_ok {l : Launch} {g : gG} {p0 : Nat} {ν : gM} {K : gKt} (h : gR l g cX10_deliver RX10 6 none (gRm 3 75) none ν K) (h0 : gk (p0 + 14) = (0, 10)) : ∀ (n : Nat) (y1 : Int32) (y2 : Int32) (y3 : Int32) (μ : gM), fX10_deliver_l2 p0 n y1 y2 y3 μ = some ν → K 2 [some (.ref (g.1 + (p0 + 14))), some (.int y1), some (.int y2), some (.int y3), none, none] [] μ := by
  intro n
  induction n with
  | zero =>
    intro y1 y2 y3 μ hf
    cases (show (none : Option gM) = some _ from hf)
  | succ n ih =>
    intro y1 y2 y3 μ hf
    unfold fX10_deliver_l2 at hf
    refine zr_iload_n (pc := 2) h dX10_deliver_2 rfl rfl ?_
    refine zr_bipush (pc := 3) (v := (6 : Int32)) h dX10_deliver_3 (by decide) ?_
    have hf := zIf_s hf
    refine zr_icmp_ge (pc := 5) (tgt := 101) h dX10_deliver_5 rfl (fun b16 => ?_) (fun b16 => ?_)
    · have hf := hf.1 b16
      exact zr_vret (pc := 101) h dX10_deliver_101 rfl (zRv hf)
    · have hf := hf.2 b16
      refine zr_iload_n (pc := 8) h dX10_deliver_8 rfl rfl ?_
      refine zr_iload_n (pc := 9) h dX10_deliver_9 rfl rfl ?_
      refine zr_ishr (pc := 10) h dX10_deliver_10 ?_
      refine zr_iconst (pc := 11) (v := (1 : Int32)) h dX10_deliver_11 (by decide) ?_
      refine zr_iand (pc := 12) h dX10_deliver_12 ?_
      have hf := zIf_s hf
      refine zr_if_ne (pc := 13) (tgt := 19) h dX10_deliver_13 rfl (fun b15 => ?_) (fun b15 => ?_)
      · have hf := hf.2 b15
        refine zr_aload_n (pc := 19) h dX10_deliver_19 rfl rfl ?_
        refine zf_X10_9 (pc := 20) h h0 dX10_deliver_20 ?_
        refine zf_X10_80 (pc := 23) h gkc_4 dX10_deliver_23 ?_
        refine zr_iload_n (pc := 26) h dX10_deliver_26 rfl rfl ?_
        obtain ⟨q1, hf⟩ := zCk_s hf
        refine zr_iald (pc := 27) h gkc_11 q1 rfl dX10_deliver_27 ?_
        refine zr_aload_n (pc := 28) h dX10_deliver_28 rfl rfl ?_
        refine zf_X10_15 (pc := 29) h h0 dX10_deliver_29 ?_
        refine zf_X10_77 (pc := 32) h (gd_X10_1 h0) dX10_deliver_32 ?_
        refine zr_iand (pc := 35) h dX10_deliver_35 ?_
        refine zr_aload_n (pc := 36) h dX10_deliver_36 rfl rfl ?_
        refine zf_X10_15 (pc := 37) h h0 dX10_deliver_37 ?_
        refine zr_iload_n (pc := 40) h dX10_deliver_40 rfl rfl ?_
        obtain ⟨x2, ex2, hf⟩ := zBd_s hf
        refine zm_X10_121 (pc := 41) h (gd_X10_1 h0) ⟨by decide, by decide⟩ (cX9_beside_ok (gd_X10_1 h0) ex2) rfl (Nat.le_of_ble_eq_true rfl) dX10_deliver_41 rfl ?_
        refine zr_iand (pc := 44) h dX10_deliver_44 ?_
        refine zr_iconst (pc := 45) (v := (1 : Int32)) h dX10_deliver_45 (by decide) ?_
        refine zr_iload_n (pc := 46) h dX10_deliver_46 rfl rfl ?_
        refine zr_ishl (pc := 47) h dX10_deliver_47 ?_
        refine zr_iconst (pc := 48) (v := (-1 : Int32)) h dX10_deliver_48 (by decide) ?_
        refine zr_ixor (pc := 49) h dX10_deliver_49 ?_
        refine zr_iand (pc := 50) h dX10_deliver_50 ?_
        refine zr_topi h (fun x3 ex3 => ?_)
        have hf := zLt_s ex3 hf
        refine zr_istore (pc := 51) h dX10_deliver_51 (by decide) rfl ?_
        refine zr_iconst (pc := 53) (v := (0 : Int32)) h dX10_deliver_53 (by decide) ?_
        refine zr_istore (pc := 54) h dX10_deliver_54 (by decide) rfl ?_
        exact zr_weak h [true, true, true, true, true, true] (fX10_deliver_l56_ok h h0 ih 100000 _ _ _ _ _ _ hf)
      · have hf := hf.1 b15
        refine zr_goto (pc := 16) (tgt := 95) h dX10_deliver_16 rfl ?_
        refine zr_iincx (pc := 95) h dX10_deliver_95 rfl (by decide) rfl (c := (1 : Int32)) (by decide) (fun x14 ex14 => ?_)
        have hf := zLt_s ex14 hf
        refine zr_goto (pc := 98) (tgt := 2) h dX10_deliver_98 rfl ?_
        exact zr_weak h [true, true, true, true, false, false] (ih _ _ _ _ hf)

set_option maxRecDepth 100000 in
set_option maxHeartbeats 4000000 in
theorem cX10_deliver_ok {l : Launch} {g : gG} {p0 : Nat} {a1 : Int32} {a2 : Int32} {μ : gM} {ν : gM} (h0 : gk (p0 + 14) = (0, 10)) (hf : fX10_deliver p0 a1 a2 μ = some ν) : gMet l g yX10_deliver cX10_deliver 6 none 3 75 [.ref (g.1 + (p0 + 14)), .int a1, .int a2] μ none ν := by
  refine gMet_of (gIni [.ref (g.1 + (p0 + 14)), .int a1, .int a2] ++ List.replicate 3 none) (by decide) (gIni_ok _ _) (Nat.le_of_ble_eq_true rfl) (fun K h => ?_)
  show K 0 [some (.ref (g.1 + (p0 + 14))), some (.int a1), some (.int a2), none, none, none] [] μ
  unfold fX10_deliver at hf
  refine zr_iconst (pc := 0) (v := (0 : Int32)) h dX10_deliver_0 (by decide) ?_
  refine zr_istore_n (pc := 1) h dX10_deliver_1 rfl (by decide) rfl ?_
  exact zr_weak h [true, true, true, true, false, false] (fX10_deliver_l2_ok h h0 100000 _ _ _ _ hf)

set_option maxRecDepth 100000 in
set_option maxHeartbeats 4000000 in
theorem fX10_step_l26_ok {l : Launch} {g : gG} {p0 : Nat} {r : Int32} {ν : gM} {K : gKt} (h : gR l g cX10_step RX10 5 (some .int) (gRm 4 132) (some (.int r)) ν K) (h0 : gk (p0 + 14) = (0, 10)) : ∀ (n : Nat) (y3 : Int32) (μ : gM), fX10_step_l26 p0 n y3 μ = some (r, ν) → K 26 [some (.ref (g.1 + (p0 + 14))), none, none, some (.int y3), none] [] μ := by
  intro n
  induction n with
  | zero =>
    intro y3 μ hf
    cases (show (none : Option (Int32 × gM)) = some _ from hf)
  | succ n ih =>
    intro y3 μ hf
    unfold fX10_step_l26 at hf
    refine zr_iload_n (pc := 26) h dX10_step_26 rfl rfl ?_
    refine zr_aload_n (pc := 27) h dX10_step_27 rfl rfl ?_
    refine zf_X10_29 (pc := 28) h h0 dX10_step_28 ?_
    have hf := zIf_s hf
    refine zr_icmp_gt (pc := 31) (tgt := 66) h dX10_step_31 rfl (fun b11 => ?_) (fun b11 => ?_)
    · have hf := hf.1 b11
      refine zr_aload_n (pc := 66) h dX10_step_66 rfl rfl ?_
      refine zf_X10_15 (pc := 67) h h0 dX10_step_67 ?_
      refine zr_dup (pc := 70) h dX10_step_70 rfl ?_
      refine zf_X10_100 (pc := 71) h (gd_X10_1 h0) dX10_step_71 ?_
      refine zr_iconst (pc := 74) (v := (1 : Int32)) h dX10_step_74 (by decide) ?_
      refine zr_iadd (pc := 75) h dX10_step_75 ?_
      refine zp_X10_100 (pc := 76) h (gd_X10_1 h0) dX10_step_76 ?_
      refine zr_mu h (fun μ4 eμ4 => ?_)
      have hf := zLt_s eμ4 hf
      refine zr_iconst (pc := 79) (v := (1 : Int32)) h dX10_step_79 (by decide) ?_
      exact zr_iret (pc := 80) h dX10_step_80 (zRp hf).1 (zRp hf).2
    · have hf := hf.2 b11
      refine zr_aload_n (pc := 34) h dX10_step_34 rfl rfl ?_
      refine zr_iload_n (pc := 35) h dX10_step_35 rfl rfl ?_
      obtain ⟨x5, μ6, ex5, hf⟩ := zBp_s hf
      refine zm_X10_155 (pc := 36) h h0 ⟨by decide, by decide⟩ (cX10_send_ok h0 ex5) rfl (Nat.le_of_ble_eq_true rfl) dX10_step_36 rfl ?_
      refine zr_istore (pc := 39) h dX10_step_39 (by decide) rfl ?_
      refine zr_aload_n (pc := 41) h dX10_step_41 rfl rfl ?_
      refine zr_iload_n (pc := 42) h dX10_step_42 rfl rfl ?_
      refine zr_iconst (pc := 43) (v := (1 : Int32)) h dX10_step_43 (by decide) ?_
      obtain ⟨μ7, eμ7, hf⟩ := zBd_s hf
      refine zm_X10_158 (pc := 44) h h0 ⟨by decide, by decide⟩ (cX10_wind_ok h0 eμ7) rfl (Nat.le_of_ble_eq_true rfl) dX10_step_44 rfl ?_
      refine zr_aload_n (pc := 47) h dX10_step_47 rfl rfl ?_
      refine zr_iload_n (pc := 48) h dX10_step_48 rfl rfl ?_
      refine zr_iload (pc := 49) h dX10_step_49 rfl ?_
      obtain ⟨μ8, eμ8, hf⟩ := zBd_s hf
      refine zm_X10_161 (pc := 51) h h0 ⟨by decide, by decide⟩ (cX10_deliver_ok h0 eμ8) rfl (Nat.le_of_ble_eq_true rfl) dX10_step_51 rfl ?_
      refine zr_aload_n (pc := 54) h dX10_step_54 rfl rfl ?_
      refine zr_iload_n (pc := 55) h dX10_step_55 rfl rfl ?_
      refine zr_iconst (pc := 56) (v := (1 : Int32)) h dX10_step_56 (by decide) ?_
      obtain ⟨μ9, eμ9, hf⟩ := zBd_s hf
      refine zm_X10_164 (pc := 57) h h0 ⟨by decide, by decide⟩ (cX10_tally_ok h0 eμ9) rfl (Nat.le_of_ble_eq_true rfl) dX10_step_57 rfl ?_
      refine zr_iincx (pc := 60) h dX10_step_60 rfl (by decide) rfl (c := (1 : Int32)) (by decide) (fun x10 ex10 => ?_)
      have hf := zLt_s ex10 hf
      refine zr_goto (pc := 63) (tgt := 26) h dX10_step_63 rfl ?_
      exact zr_weak h [true, false, false, true, false] (ih _ _ hf)

set_option maxRecDepth 100000 in
set_option maxHeartbeats 4000000 in
theorem cX10_step_ok {l : Launch} {g : gG} {p0 : Nat} {a1 : Int32} {μ : gM} {r : Int32} {ν : gM} (h0 : gk (p0 + 14) = (0, 10)) (hf : fX10_step p0 a1 μ = some (r, ν)) : gMet l g yX10_step cX10_step 5 (some .int) 4 132 [.ref (g.1 + (p0 + 14)), .int a1] μ (some (.int r)) ν := by
  refine gMet_of (gIni [.ref (g.1 + (p0 + 14)), .int a1] ++ List.replicate 3 none) (by decide) (gIni_ok _ _) (Nat.le_of_ble_eq_true rfl) (fun K h => ?_)
  show K 0 [some (.ref (g.1 + (p0 + 14))), some (.int a1), none, none, none] [] μ
  unfold fX10_step at hf
  refine zr_aload_n (pc := 0) h dX10_step_0 rfl rfl ?_
  refine zr_iload_n (pc := 1) h dX10_step_1 rfl rfl ?_
  obtain ⟨x1, ex1, hf⟩ := zBd_s hf
  refine zm_X10_146 (pc := 2) h h0 ⟨by decide, by decide⟩ (cX10_quietTicks_ok h0 ex1) rfl (Nat.le_of_ble_eq_true rfl) dX10_step_2 rfl ?_
  refine zr_istore_n (pc := 5) h dX10_step_5 rfl (by decide) rfl ?_
  refine zr_iload_n (pc := 6) h dX10_step_6 rfl rfl ?_
  have hf := zIf_s hf
  refine zr_if_le (pc := 7) (tgt := 17) h dX10_step_7 rfl (fun b13 => ?_) (fun b13 => ?_)
  · have hf := hf.1 b13
    refine zr_aload_n (pc := 17) h dX10_step_17 rfl rfl ?_
    obtain ⟨μ2, eμ2, hf⟩ := zBd_s hf
    refine zm_X10_152 (pc := 18) h h0 ⟨by decide, by decide⟩ (cX10_happen_ok h0 eμ2) rfl (Nat.le_of_ble_eq_true rfl) dX10_step_18 rfl ?_
    refine zr_aload_n (pc := 21) h dX10_step_21 rfl rfl ?_
    refine zf_X10_19 (pc := 22) h h0 dX10_step_22 ?_
    refine zr_topi h (fun x3 ex3 => ?_)
    have hf := zLt_s ex3 hf
    refine zr_istore_n (pc := 25) h dX10_step_25 rfl (by decide) rfl ?_
    exact zr_weak h [true, false, false, true, false] (fX10_step_l26_ok h h0 100000 _ _ hf)
  · have hf := hf.2 b13
    refine zr_aload_n (pc := 10) h dX10_step_10 rfl rfl ?_
    refine zr_iload_n (pc := 11) h dX10_step_11 rfl rfl ?_
    obtain ⟨μ12, eμ12, hf⟩ := zBd_s hf
    refine zm_X10_149 (pc := 12) h h0 ⟨by decide, by decide⟩ (cX10_passQuietly_ok h0 eμ12) rfl (Nat.le_of_ble_eq_true rfl) dX10_step_12 rfl ?_
    refine zr_iload_n (pc := 15) h dX10_step_15 rfl rfl ?_
    exact zr_iret (pc := 16) h dX10_step_16 (zRp hf).1 (zRp hf).2

set_option maxRecDepth 100000 in
set_option maxHeartbeats 4000000 in
theorem fX10_run_l2_ok {l : Launch} {g : gG} {p0 : Nat} {ν : gM} {K : gKt} (h : gR l g cX10_run RX10 3 none (gRm 5 156) none ν K) (h0 : gk (p0 + 14) = (0, 10)) : ∀ (n : Nat) (y1 : Int32) (y2 : Int32) (μ : gM), fX10_run_l2 p0 n y1 y2 μ = some ν → K 2 [some (.ref (g.1 + (p0 + 14))), some (.int y1), some (.int y2)] [] μ := by
  intro n
  induction n with
  | zero =>
    intro y1 y2 μ hf
    cases (show (none : Option gM) = some _ from hf)
  | succ n ih =>
    intro y1 y2 μ hf
    unfold fX10_run_l2 at hf
    refine zr_iload_n (pc := 2) h dX10_run_2 rfl rfl ?_
    refine zr_iload_n (pc := 3) h dX10_run_3 rfl rfl ?_
    have hf := zIf_s hf
    refine zr_icmp_ge (pc := 4) (tgt := 24) h dX10_run_4 rfl (fun b4 => ?_) (fun b4 => ?_)
    · have hf := hf.1 b4
      exact zr_vret (pc := 24) h dX10_run_24 rfl (zRv hf)
    · have hf := hf.2 b4
      refine zr_iload_n (pc := 7) h dX10_run_7 rfl rfl ?_
      refine zr_aload_n (pc := 8) h dX10_run_8 rfl rfl ?_
      refine zr_iload_n (pc := 9) h dX10_run_9 rfl rfl ?_
      refine zr_iload_n (pc := 10) h dX10_run_10 rfl rfl ?_
      refine zr_isub (pc := 11) h dX10_run_11 ?_
      obtain ⟨x1, μ2, ex1, hf⟩ := zBp_s hf
      refine zm_X10_143 (pc := 12) h h0 ⟨by decide, by decide⟩ (cX10_step_ok h0 ex1) rfl (Nat.le_of_ble_eq_true rfl) dX10_run_12 rfl ?_
      refine zr_iconst (pc := 15) (v := (1 : Int32)) h dX10_run_15 (by decide) ?_
      refine zr_mmax (pc := 16) h zw_1060 zw_1061 zw_198 zmc_max (by decide) (Nat.le_of_ble_eq_true rfl) dX10_run_16 ?_
      refine zr_iadd (pc := 19) h dX10_run_19 ?_
      refine zr_topi h (fun x3 ex3 => ?_)
      have hf := zLt_s ex3 hf
      refine zr_istore_n (pc := 20) h dX10_run_20 rfl (by decide) rfl ?_
      refine zr_goto (pc := 21) (tgt := 2) h dX10_run_21 rfl ?_
      exact zr_weak h [true, true, true] (ih _ _ _ hf)

set_option maxRecDepth 100000 in
set_option maxHeartbeats 4000000 in
theorem cX10_run_ok {l : Launch} {g : gG} {p0 : Nat} {a1 : Int32} {μ : gM} {ν : gM} (h0 : gk (p0 + 14) = (0, 10)) (hf : fX10_run p0 a1 μ = some ν) : gMet l g yX10_run cX10_run 3 none 5 156 [.ref (g.1 + (p0 + 14)), .int a1] μ none ν := by
  refine gMet_of (gIni [.ref (g.1 + (p0 + 14)), .int a1] ++ List.replicate 1 none) (by decide) (gIni_ok _ _) (Nat.le_of_ble_eq_true rfl) (fun K h => ?_)
  show K 0 [some (.ref (g.1 + (p0 + 14))), some (.int a1), none] [] μ
  unfold fX10_run at hf
  refine zr_iconst (pc := 0) (v := (0 : Int32)) h dX10_run_0 (by decide) ?_
  refine zr_istore_n (pc := 1) h dX10_run_1 rfl (by decide) rfl ?_
  exact zr_weak h [true, true, true] (fX10_run_l2_ok h h0 100000 _ _ _ hf)

set_option maxRecDepth 100000 in
set_option maxHeartbeats 4000000 in
theorem cX10_begin_ok {l : Launch} {g : gG} {p0 : Nat} {μ : gM} {ν : gM} (h0 : gk (p0 + 14) = (0, 10)) (hf : fX10_begin p0 μ = some ν) : gMet l g yX10_begin cX10_begin 1 none 3 71 [.ref (g.1 + (p0 + 14))] μ none ν := by
  refine gMet_of (gIni [.ref (g.1 + (p0 + 14))] ++ List.replicate 0 none) (by decide) (gIni_ok _ _) (Nat.le_of_ble_eq_true rfl) (fun K h => ?_)
  show K 0 [some (.ref (g.1 + (p0 + 14)))] [] μ
  unfold fX10_begin at hf
  refine zr_aload_n (pc := 0) h dX10_begin_0 rfl rfl ?_
  obtain ⟨μ1, eμ1, hf⟩ := zBd_s hf
  refine zm_X10_32 (pc := 1) h h0 ⟨by decide, by decide⟩ (cX10_runAllGroups_ok h0 eμ1) rfl (Nat.le_of_ble_eq_true rfl) dX10_begin_1 rfl ?_
  refine zr_aload_n (pc := 4) h dX10_begin_4 rfl rfl ?_
  refine zf_X10_15 (pc := 5) h h0 dX10_begin_5 ?_
  refine zr_aload_n (pc := 8) h dX10_begin_8 rfl rfl ?_
  refine zf_X10_9 (pc := 9) h h0 dX10_begin_9 ?_
  refine zf_X10_35 (pc := 12) h gkc_4 dX10_begin_12 ?_
  obtain ⟨μ2, eμ2, hf⟩ := zBd_s hf
  refine zm_X10_38 (pc := 15) h (gd_X10_1 h0) ⟨by decide, by decide⟩ (cX9_clear_ok (gd_X10_1 h0) gkc_12 eμ2) rfl (Nat.le_of_ble_eq_true rfl) dX10_begin_15 rfl ?_
  refine zr_aload_n (pc := 18) h dX10_begin_18 rfl rfl ?_
  refine zr_iconst (pc := 19) (v := (0 : Int32)) h dX10_begin_19 (by decide) ?_
  obtain ⟨μ3, eμ3, hf⟩ := zBd_s hf
  refine zm_X10_44 (pc := 20) h h0 ⟨by decide, by decide⟩ (cX10_setCuts_ok h0 eμ3) rfl (Nat.le_of_ble_eq_true rfl) dX10_begin_20 rfl ?_
  refine zr_aload_n (pc := 23) h dX10_begin_23 rfl rfl ?_
  refine zr_iconst (pc := 24) (v := (1 : Int32)) h dX10_begin_24 (by decide) ?_
  refine zr_aload_n (pc := 25) h dX10_begin_25 rfl rfl ?_
  refine zf_X10_9 (pc := 26) h h0 dX10_begin_26 ?_
  refine zf_X10_23 (pc := 29) h gkc_4 dX10_begin_29 ?_
  refine zr_iconst (pc := 32) (v := (0 : Int32)) h dX10_begin_32 (by decide) ?_
  refine zr_iald (pc := 33) (q := 0) h gkc_5 rfl (by decide) dX10_begin_33 ?_
  refine zr_ishl (pc := 34) h dX10_begin_34 ?_
  refine zr_iconst (pc := 35) (v := (1 : Int32)) h dX10_begin_35 (by decide) ?_
  refine zr_isub (pc := 36) h dX10_begin_36 ?_
  obtain ⟨μ4, eμ4, hf⟩ := zBd_s hf
  refine zm_X10_48 (pc := 37) h h0 ⟨by decide, by decide⟩ (cX10_raise_ok h0 eμ4) rfl (Nat.le_of_ble_eq_true rfl) dX10_begin_37 rfl ?_
  exact zr_vret (pc := 40) h dX10_begin_40 rfl (zRv hf)

