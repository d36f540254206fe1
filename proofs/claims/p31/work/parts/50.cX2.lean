set_option maxRecDepth 100000 in
set_option maxHeartbeats 4000000 in
theorem cX2_isFull_ok {l : Launch} {g : gG} {a1 : Int32} {μ : gM} {r : Int32} (hf : fX2_isFull a1 μ = some r) : gMet l g yX2_isFull cX2_isFull 2 (some .boolean) 1 20 [.ref (g.1 + 17), .int a1] μ (some (.int r)) μ := by
  refine gMet_of (gIni [.ref (g.1 + 17), .int a1] ++ List.replicate 0 none) (by decide) (gIni_ok _ _) (Nat.le_of_ble_eq_true rfl) (fun K h => ?_)
  show K 0 [some (.ref (g.1 + 17)), some (.int a1)] [] μ
  unfold fX2_isFull at hf
  refine zr_iload_n (pc := 0) h dX2_isFull_0 rfl rfl ?_
  refine zr_bipush (pc := 1) (v := (11 : Int32)) h dX2_isFull_1 (by decide) ?_
  have hf := zIf_s hf
  refine zr_icmp_ne (pc := 3) (tgt := 24) h dX2_isFull_3 rfl (fun b6 => ?_) (fun b6 => ?_)
  · have hf := hf.2 b6
    refine zr_iload_n (pc := 24) h dX2_isFull_24 rfl rfl ?_
    refine zr_bipush (pc := 25) (v := (7 : Int32)) h dX2_isFull_25 (by decide) ?_
    have hf := zIf_s hf
    refine zr_icmp_eq (pc := 27) (tgt := 50) h dX2_isFull_27 rfl (fun b4 => ?_) (fun b4 => ?_)
    · have hf := hf.1 b4
      refine zr_iconst (pc := 50) (v := (0 : Int32)) h dX2_isFull_50 (by decide) ?_
      exact zr_zret (pc := 51) h rfl dX2_isFull_51 (zRi hf) rfl
    · have hf := hf.2 b4
      refine zr_aload_n (pc := 30) h dX2_isFull_30 rfl rfl ?_
      refine zf_X2_12 (pc := 31) h gkc_17 dX2_isFull_31 ?_
      refine zf_X2_74 (pc := 34) h gkc_18 dX2_isFull_34 ?_
      refine zr_iload_n (pc := 37) h dX2_isFull_37 rfl rfl ?_
      obtain ⟨q1, hf⟩ := zCk_s hf
      refine zr_iald (pc := 38) h gkc_19 q1 rfl dX2_isFull_38 ?_
      refine zr_iload_n (pc := 39) h dX2_isFull_39 rfl rfl ?_
      obtain ⟨x2, ex2, hf⟩ := zBd_s hf
      refine zm_X2_78 (pc := 40) h ⟨by decide, by decide⟩ (cX1_room_ok ex2) rfl (Nat.le_of_ble_eq_true rfl) dX2_isFull_40 rfl ?_
      have hf := zIf_s hf
      refine zr_icmp_lt (pc := 43) (tgt := 50) h dX2_isFull_43 rfl (fun b3 => ?_) (fun b3 => ?_)
      · have hf := hf.1 b3
        refine zr_iconst (pc := 50) (v := (0 : Int32)) h dX2_isFull_50 (by decide) ?_
        exact zr_zret (pc := 51) h rfl dX2_isFull_51 (zRi hf) rfl
      · have hf := hf.2 b3
        refine zr_iconst (pc := 46) (v := (1 : Int32)) h dX2_isFull_46 (by decide) ?_
        refine zr_goto (pc := 47) (tgt := 51) h dX2_isFull_47 rfl ?_
        exact zr_zret (pc := 51) h rfl dX2_isFull_51 (zRi hf) rfl
  · have hf := hf.1 b6
    refine zr_aload_n (pc := 6) h dX2_isFull_6 rfl rfl ?_
    refine zf_X2_12 (pc := 7) h gkc_17 dX2_isFull_7 ?_
    refine zf_X2_71 (pc := 10) h gkc_18 dX2_isFull_10 ?_
    refine zr_bipush (pc := 13) (v := (24 : Int32)) h dX2_isFull_13 (by decide) ?_
    have hf := zIf_s hf
    refine zr_icmp_lt (pc := 15) (tgt := 22) h dX2_isFull_15 rfl (fun b5 => ?_) (fun b5 => ?_)
    · have hf := hf.1 b5
      refine zr_iconst (pc := 22) (v := (0 : Int32)) h dX2_isFull_22 (by decide) ?_
      exact zr_zret (pc := 23) h rfl dX2_isFull_23 (zRi hf) rfl
    · have hf := hf.2 b5
      refine zr_iconst (pc := 18) (v := (1 : Int32)) h dX2_isFull_18 (by decide) ?_
      refine zr_goto (pc := 19) (tgt := 23) h dX2_isFull_19 rfl ?_
      exact zr_zret (pc := 23) h rfl dX2_isFull_23 (zRi hf) rfl

set_option maxRecDepth 100000 in
set_option maxHeartbeats 4000000 in
theorem cX2_readName_ok {l : Launch} {g : gG} {a1 : Int32} {μ : gM} {r : Int32} {ν : gM} (hf : fX2_readName a1 μ = some (r, ν)) : gMet l g yX2_readName cX2_readName 3 (some .boolean) 2 44 [.ref (g.1 + 17), .int a1] μ (some (.int r)) ν := by
  refine gMet_of (gIni [.ref (g.1 + 17), .int a1] ++ List.replicate 1 none) (by decide) (gIni_ok _ _) (Nat.le_of_ble_eq_true rfl) (fun K h => ?_)
  show K 0 [some (.ref (g.1 + 17)), some (.int a1), none] [] μ
  unfold fX2_readName at hf
  refine zr_aload_n (pc := 0) h dX2_readName_0 rfl rfl ?_
  refine zf_X2_18 (pc := 1) h gkc_17 dX2_readName_1 ?_
  obtain ⟨x1, ex1, hf⟩ := zBd_s hf
  refine zm_X2_82 (pc := 4) h gkc_1 ⟨by decide, by decide⟩ (cX7_isName_ok ex1) rfl (Nat.le_of_ble_eq_true rfl) dX2_readName_4 rfl ?_
  have hf := zIf_s hf
  refine zr_if_ne (pc := 7) (tgt := 26) h dX2_readName_7 rfl (fun b17 => ?_) (fun b17 => ?_)
  · have hf := hf.2 b17
    refine zr_aload_n (pc := 26) h dX2_readName_26 rfl rfl ?_
    refine zf_X2_12 (pc := 27) h gkc_17 dX2_readName_27 ?_
    refine zr_aload_n (pc := 30) h dX2_readName_30 rfl rfl ?_
    refine zf_X2_18 (pc := 31) h gkc_17 dX2_readName_31 ?_
    refine zf_X2_85 (pc := 34) h gkc_1 dX2_readName_34 ?_
    obtain ⟨x2, ex2, hf⟩ := zBd_s hf
    refine zm_X2_88 (pc := 37) h gkc_18 ⟨by decide, by decide⟩ (cX1_isTold_ok gkc_18 ex2) rfl (Nat.le_of_ble_eq_true rfl) dX2_readName_37 rfl ?_
    have hf := zIf_s hf
    refine zr_if_eq (pc := 40) (tgt := 59) h dX2_readName_40 rfl (fun b13 => ?_) (fun b13 => ?_)
    · have hf := hf.1 b13
      refine zr_aload_n (pc := 59) h dX2_readName_59 rfl rfl ?_
      refine zf_X2_12 (pc := 60) h gkc_17 dX2_readName_60 ?_
      refine zf_X2_74 (pc := 63) h gkc_18 dX2_readName_63 ?_
      refine zr_iload_n (pc := 66) h dX2_readName_66 rfl rfl ?_
      obtain ⟨q3, hf⟩ := zCk_s hf
      refine zr_iald (pc := 67) h gkc_19 q3 rfl dX2_readName_67 ?_
      refine zr_topi h (fun x4 ex4 => ?_)
      have hf := zLt_s ex4 hf
      refine zr_istore_n (pc := 68) h dX2_readName_68 rfl (by decide) rfl ?_
      refine zr_aload_n (pc := 69) h dX2_readName_69 rfl rfl ?_
      refine zf_X2_12 (pc := 70) h gkc_17 dX2_readName_70 ?_
      refine zf_X2_91 (pc := 73) h gkc_18 dX2_readName_73 ?_
      refine zr_iload_n (pc := 76) h dX2_readName_76 rfl rfl ?_
      refine zr_bipush (pc := 77) (v := (8 : Int32)) h dX2_readName_77 (by decide) ?_
      refine zr_imul (pc := 79) h dX2_readName_79 ?_
      refine zr_iload_n (pc := 80) h dX2_readName_80 rfl rfl ?_
      refine zr_iadd (pc := 81) h dX2_readName_81 ?_
      refine zr_aload_n (pc := 82) h dX2_readName_82 rfl rfl ?_
      refine zf_X2_18 (pc := 83) h gkc_17 dX2_readName_83 ?_
      refine zf_X2_85 (pc := 86) h gkc_1 dX2_readName_86 ?_
      obtain ⟨q5, hf⟩ := zCk_s hf
      refine zr_iast (pc := 89) h gkc_20 q5 rfl dX2_readName_89 ?_
      refine zr_mu h (fun μ6 eμ6 => ?_)
      have hf := zLt_s eμ6 hf
      refine zr_aload_n (pc := 90) h dX2_readName_90 rfl rfl ?_
      refine zf_X2_12 (pc := 91) h gkc_17 dX2_readName_91 ?_
      refine zf_X2_74 (pc := 94) h gkc_18 dX2_readName_94 ?_
      refine zr_iload_n (pc := 97) h dX2_readName_97 rfl rfl ?_
      refine zr_iload_n (pc := 98) h dX2_readName_98 rfl rfl ?_
      refine zr_iconst (pc := 99) (v := (1 : Int32)) h dX2_readName_99 (by decide) ?_
      refine zr_iadd (pc := 100) h dX2_readName_100 ?_
      obtain ⟨q7, hf⟩ := zCk_s hf
      refine zr_iast (pc := 101) h gkc_19 q7 rfl dX2_readName_101 ?_
      refine zr_mu h (fun μ8 eμ8 => ?_)
      have hf := zLt_s eμ8 hf
      refine zr_aload_n (pc := 102) h dX2_readName_102 rfl rfl ?_
      refine zf_X2_18 (pc := 103) h gkc_17 dX2_readName_103 ?_
      obtain ⟨μ9, eμ9, hf⟩ := zBd_s hf
      refine zm_X2_53 (pc := 106) h gkc_1 ⟨by decide, by decide⟩ (cX7_advance_ok eμ9) rfl (Nat.le_of_ble_eq_true rfl) dX2_readName_106 rfl ?_
      refine zr_iconst (pc := 109) (v := (1 : Int32)) h dX2_readName_109 (by decide) ?_
      exact zr_zret (pc := 110) h rfl dX2_readName_110 (zRp hf).1 (zRp hf).2
    · have hf := hf.2 b13
      refine zr_aload_n (pc := 43) h dX2_readName_43 rfl rfl ?_
      refine zf_X2_18 (pc := 44) h gkc_17 dX2_readName_44 ?_
      refine zr_iconst (pc := 47) (v := (2 : Int32)) h dX2_readName_47 (by decide) ?_
      refine zr_aload_n (pc := 48) h dX2_readName_48 rfl rfl ?_
      refine zf_X2_18 (pc := 49) h gkc_17 dX2_readName_49 ?_
      refine zf_X2_38 (pc := 52) h gkc_1 dX2_readName_52 ?_
      obtain ⟨x10, μ11, ex10, hf⟩ := zBp_s hf
      refine zm_X2_46 (pc := 55) h gkc_1 ⟨by decide, by decide⟩ (cX7_refuse_ok ex10) rfl (Nat.le_of_ble_eq_true rfl) dX2_readName_55 rfl ?_
      obtain ⟨q12, hf⟩ := zCk_s hf
      exact zr_zret (pc := 58) h (zBoo q12) dX2_readName_58 (zRp hf).1 (zRp hf).2
  · have hf := hf.1 b17
    refine zr_aload_n (pc := 10) h dX2_readName_10 rfl rfl ?_
    refine zf_X2_18 (pc := 11) h gkc_17 dX2_readName_11 ?_
    refine zr_iconst (pc := 14) (v := (1 : Int32)) h dX2_readName_14 (by decide) ?_
    refine zr_aload_n (pc := 15) h dX2_readName_15 rfl rfl ?_
    refine zf_X2_18 (pc := 16) h gkc_17 dX2_readName_16 ?_
    refine zf_X2_38 (pc := 19) h gkc_1 dX2_readName_19 ?_
    obtain ⟨x14, μ15, ex14, hf⟩ := zBp_s hf
    refine zm_X2_46 (pc := 22) h gkc_1 ⟨by decide, by decide⟩ (cX7_refuse_ok ex14) rfl (Nat.le_of_ble_eq_true rfl) dX2_readName_22 rfl ?_
    obtain ⟨q16, hf⟩ := zCk_s hf
    exact zr_zret (pc := 25) h (zBoo q16) dX2_readName_25 (zRp hf).1 (zRp hf).2

set_option maxRecDepth 100000 in
set_option maxHeartbeats 4000000 in
theorem fX2_readGroup_n134_ok {l : Launch} {g : gG} {r : Int32} {ν : gM} {K : gKt} (h : gR l g cX2_readGroup RX2 6 (some .boolean) (gRm 3 66) (some (.int r)) ν K) {y1 : Int32} {y2 : Int32} {y3 : Int32} {y4 : Int32} {z0 : Int32} {μ : gM} (hf : fX2_readGroup_n134 y1 y2 y3 y4 z0 μ = some (r, ν)) : K 134 [some (.ref (g.1 + 17)), some (.int y1), some (.int y2), some (.int y3), some (.int y4), none] [.int z0] μ := by
  unfold fX2_readGroup_n134 at hf
  refine zr_istore (pc := 134) h dX2_readGroup_134 (by decide) rfl ?_
  refine zr_aload_n (pc := 136) h dX2_readGroup_136 rfl rfl ?_
  refine zf_X2_12 (pc := 137) h gkc_17 dX2_readGroup_137 ?_
  refine zf_X2_104 (pc := 140) h gkc_18 dX2_readGroup_140 ?_
  refine zr_iload_n (pc := 143) h dX2_readGroup_143 rfl rfl ?_
  refine zr_iload_n (pc := 144) h dX2_readGroup_144 rfl rfl ?_
  obtain ⟨q10, hf⟩ := zCk_s hf
  refine zr_iast (pc := 145) h gkc_21 q10 rfl dX2_readGroup_145 ?_
  refine zr_mu h (fun μ11 eμ11 => ?_)
  have hf := zLt_s eμ11 hf
  refine zr_aload_n (pc := 146) h dX2_readGroup_146 rfl rfl ?_
  refine zf_X2_12 (pc := 147) h gkc_17 dX2_readGroup_147 ?_
  refine zf_X2_107 (pc := 150) h gkc_18 dX2_readGroup_150 ?_
  refine zr_iload_n (pc := 153) h dX2_readGroup_153 rfl rfl ?_
  refine zr_iload_n (pc := 154) h dX2_readGroup_154 rfl rfl ?_
  obtain ⟨q12, hf⟩ := zCk_s hf
  refine zr_iast (pc := 155) h gkc_22 q12 rfl dX2_readGroup_155 ?_
  refine zr_mu h (fun μ13 eμ13 => ?_)
  have hf := zLt_s eμ13 hf
  refine zr_aload_n (pc := 156) h dX2_readGroup_156 rfl rfl ?_
  refine zf_X2_12 (pc := 157) h gkc_17 dX2_readGroup_157 ?_
  refine zf_X2_110 (pc := 160) h gkc_18 dX2_readGroup_160 ?_
  refine zr_iload_n (pc := 163) h dX2_readGroup_163 rfl rfl ?_
  refine zr_iload (pc := 164) h dX2_readGroup_164 rfl ?_
  obtain ⟨q14, hf⟩ := zCk_s hf
  refine zr_iast (pc := 166) h gkc_23 q14 rfl dX2_readGroup_166 ?_
  refine zr_mu h (fun μ15 eμ15 => ?_)
  have hf := zLt_s eμ15 hf
  refine zr_aload_n (pc := 167) h dX2_readGroup_167 rfl rfl ?_
  refine zf_X2_12 (pc := 168) h gkc_17 dX2_readGroup_168 ?_
  refine zf_X2_113 (pc := 171) h gkc_18 dX2_readGroup_171 ?_
  refine zr_iload_n (pc := 174) h dX2_readGroup_174 rfl rfl ?_
  refine zr_iload (pc := 175) h dX2_readGroup_175 rfl ?_
  obtain ⟨q16, hf⟩ := zCk_s hf
  refine zr_iast (pc := 177) h gkc_24 q16 rfl dX2_readGroup_177 ?_
  refine zr_mu h (fun μ17 eμ17 => ?_)
  have hf := zLt_s eμ17 hf
  refine zr_iload (pc := 178) h dX2_readGroup_178 rfl ?_
  refine zr_iconst (pc := 180) (v := (-1 : Int32)) h dX2_readGroup_180 (by decide) ?_
  have hf := zIf_s hf
  refine zr_icmp_eq (pc := 181) (tgt := 188) h dX2_readGroup_181 rfl (fun b18 => ?_) (fun b18 => ?_)
  · have hf := hf.1 b18
    refine zr_iconst (pc := 188) (v := (0 : Int32)) h dX2_readGroup_188 (by decide) ?_
    exact zr_zret (pc := 189) h rfl dX2_readGroup_189 (zRp hf).1 (zRp hf).2
  · have hf := hf.2 b18
    refine zr_iconst (pc := 184) (v := (1 : Int32)) h dX2_readGroup_184 (by decide) ?_
    refine zr_goto (pc := 185) (tgt := 189) h dX2_readGroup_185 rfl ?_
    exact zr_zret (pc := 189) h rfl dX2_readGroup_189 (zRp hf).1 (zRp hf).2

set_option maxRecDepth 100000 in
set_option maxHeartbeats 4000000 in
theorem fX2_readGroup_n96_ok {l : Launch} {g : gG} {r : Int32} {ν : gM} {K : gKt} (h : gR l g cX2_readGroup RX2 6 (some .boolean) (gRm 3 66) (some (.int r)) ν K) {y1 : Int32} {y2 : Int32} {y3 : Int32} {y4 : Int32} {μ : gM} (hf : fX2_readGroup_n96 y1 y2 y3 y4 μ = some (r, ν)) : K 96 [some (.ref (g.1 + 17)), some (.int y1), some (.int y2), some (.int y3), some (.int y4), none] [] μ := by
  unfold fX2_readGroup_n96 at hf
  refine zr_iload_n (pc := 96) h dX2_readGroup_96 rfl rfl ?_
  refine zr_iconst (pc := 97) (v := (-1 : Int32)) h dX2_readGroup_97 (by decide) ?_
  have hf := zIf_s hf
  refine zr_icmp_eq (pc := 98) (tgt := 106) h dX2_readGroup_98 rfl (fun b23 => ?_) (fun b23 => ?_)
  · have hf := hf.1 b23
    refine zr_iconst (pc := 106) (v := (0 : Int32)) h dX2_readGroup_106 (by decide) ?_
    exact zr_zret (pc := 107) h rfl dX2_readGroup_107 (zRp hf).1 (zRp hf).2
  · have hf := hf.2 b23
    refine zr_iload_n (pc := 101) h dX2_readGroup_101 rfl rfl ?_
    refine zr_iconst (pc := 102) (v := (-1 : Int32)) h dX2_readGroup_102 (by decide) ?_
    have hf := zIf_s hf
    refine zr_icmp_ne (pc := 103) (tgt := 108) h dX2_readGroup_103 rfl (fun b22 => ?_) (fun b22 => ?_)
    · have hf := hf.2 b22
      refine zr_aload_n (pc := 108) h dX2_readGroup_108 rfl rfl ?_
      refine zf_X2_18 (pc := 109) h gkc_17 dX2_readGroup_109 ?_
      refine zr_bipush (pc := 112) (v := (6 : Int32)) h dX2_readGroup_112 (by decide) ?_
      obtain ⟨x8, μ9, ex8, hf⟩ := zBp_s hf
      refine zm_X2_101 (pc := 114) h gkc_1 ⟨by decide, by decide⟩ (cX7_passIfThere_ok ex8) rfl (Nat.le_of_ble_eq_true rfl) dX2_readGroup_114 rfl ?_
      have hf := zIf_s hf
      refine zr_if_eq (pc := 117) (tgt := 133) h dX2_readGroup_117 rfl (fun b21 => ?_) (fun b21 => ?_)
      · have hf := hf.1 b21
        refine zr_iconst (pc := 133) (v := (1 : Int32)) h dX2_readGroup_133 (by decide) ?_
        exact zr_weak h [true, true, true, true, true, false] (fX2_readGroup_n134_ok h hf)
      · have hf := hf.2 b21
        refine zr_aload_n (pc := 120) h dX2_readGroup_120 rfl rfl ?_
        refine zf_X2_18 (pc := 121) h gkc_17 dX2_readGroup_121 ?_
        refine zr_iconst (pc := 124) (v := (1 : Int32)) h dX2_readGroup_124 (by decide) ?_
        refine zr_bipush (pc := 125) (v := (8 : Int32)) h dX2_readGroup_125 (by decide) ?_
        obtain ⟨x19, μ20, ex19, hf⟩ := zBp_s hf
        refine zm_X2_97 (pc := 127) h gkc_1 ⟨by decide, by decide⟩ (cX7_number_ok ex19) rfl (Nat.le_of_ble_eq_true rfl) dX2_readGroup_127 rfl ?_
        refine zr_goto (pc := 130) (tgt := 134) h dX2_readGroup_130 rfl ?_
        exact zr_weak h [true, true, true, true, true, false] (fX2_readGroup_n134_ok h hf)
    · have hf := hf.1 b22
      refine zr_iconst (pc := 106) (v := (0 : Int32)) h dX2_readGroup_106 (by decide) ?_
      exact zr_zret (pc := 107) h rfl dX2_readGroup_107 (zRp hf).1 (zRp hf).2

set_option maxRecDepth 100000 in
set_option maxHeartbeats 4000000 in
theorem fX2_readGroup_n77_ok {l : Launch} {g : gG} {r : Int32} {ν : gM} {K : gKt} (h : gR l g cX2_readGroup RX2 6 (some .boolean) (gRm 3 66) (some (.int r)) ν K) {y1 : Int32} {y2 : Int32} {y3 : Int32} {y4 : Int32} {μ : gM} (hf : fX2_readGroup_n77 y1 y2 y3 y4 μ = some (r, ν)) : K 77 [some (.ref (g.1 + 17)), some (.int y1), some (.int y2), some (.int y3), some (.int y4), none] [] μ := by
  unfold fX2_readGroup_n77 at hf
  refine zr_iload_n (pc := 77) h dX2_readGroup_77 rfl rfl ?_
  refine zr_iconst (pc := 78) (v := (-1 : Int32)) h dX2_readGroup_78 (by decide) ?_
  have hf := zIf_s hf
  refine zr_icmp_eq (pc := 79) (tgt := 96) h dX2_readGroup_79 rfl (fun b27 => ?_) (fun b27 => ?_)
  · have hf := hf.1 b27
    exact zr_weak h [true, true, true, true, true, false] (fX2_readGroup_n96_ok h hf)
  · have hf := hf.2 b27
    refine zr_aload_n (pc := 82) h dX2_readGroup_82 rfl rfl ?_
    refine zf_X2_18 (pc := 83) h gkc_17 dX2_readGroup_83 ?_
    refine zr_iconst (pc := 86) (v := (5 : Int32)) h dX2_readGroup_86 (by decide) ?_
    obtain ⟨x24, μ25, ex24, hf⟩ := zBp_s hf
    refine zm_X2_101 (pc := 87) h gkc_1 ⟨by decide, by decide⟩ (cX7_passIfThere_ok ex24) rfl (Nat.le_of_ble_eq_true rfl) dX2_readGroup_87 rfl ?_
    have hf := zIf_s hf
    refine zr_if_eq (pc := 90) (tgt := 96) h dX2_readGroup_90 rfl (fun b26 => ?_) (fun b26 => ?_)
    · have hf := hf.1 b26
      exact zr_weak h [true, true, true, true, true, false] (fX2_readGroup_n96_ok h hf)
    · have hf := hf.2 b26
      refine zr_iconst (pc := 93) (v := (1 : Int32)) h dX2_readGroup_93 (by decide) ?_
      refine zr_istore (pc := 94) h dX2_readGroup_94 (by decide) rfl ?_
      exact zr_weak h [true, true, true, true, true, false] (fX2_readGroup_n96_ok h hf)

set_option maxRecDepth 100000 in
set_option maxHeartbeats 4000000 in
theorem cX2_readGroup_ok {l : Launch} {g : gG} {μ : gM} {r : Int32} {ν : gM} (hf : fX2_readGroup μ = some (r, ν)) : gMet l g yX2_readGroup cX2_readGroup 6 (some .boolean) 3 66 [.ref (g.1 + 17)] μ (some (.int r)) ν := by
  refine gMet_of (gIni [.ref (g.1 + 17)] ++ List.replicate 5 none) (by decide) (gIni_ok _ _) (Nat.le_of_ble_eq_true rfl) (fun K h => ?_)
  show K 0 [some (.ref (g.1 + 17)), none, none, none, none, none] [] μ
  unfold fX2_readGroup at hf
  refine zr_aload_n (pc := 0) h dX2_readGroup_0 rfl rfl ?_
  refine zf_X2_12 (pc := 1) h gkc_17 dX2_readGroup_1 ?_
  refine zf_X2_74 (pc := 4) h gkc_18 dX2_readGroup_4 ?_
  refine zr_iconst (pc := 7) (v := (2 : Int32)) h dX2_readGroup_7 (by decide) ?_
  refine zr_iald (pc := 8) (q := 2) h gkc_19 rfl (by decide) dX2_readGroup_8 ?_
  refine zr_topi h (fun x1 ex1 => ?_)
  have hf := zLt_s ex1 hf
  refine zr_istore_n (pc := 9) h dX2_readGroup_9 rfl (by decide) rfl ?_
  refine zr_aload_n (pc := 10) h dX2_readGroup_10 rfl rfl ?_
  refine zr_iconst (pc := 11) (v := (2 : Int32)) h dX2_readGroup_11 (by decide) ?_
  obtain ⟨x2, μ3, ex2, hf⟩ := zBp_s hf
  refine zm_X2_65 (pc := 12) h gkc_17 ⟨by decide, by decide⟩ (cX2_readName_ok ex2) rfl (Nat.le_of_ble_eq_true rfl) dX2_readGroup_12 rfl ?_
  have hf := zIf_s hf
  refine zr_if_eq (pc := 15) (tgt := 29) h dX2_readGroup_15 rfl (fun b35 => ?_) (fun b35 => ?_)
  · have hf := hf.1 b35
    refine zr_iconst (pc := 29) (v := (0 : Int32)) h dX2_readGroup_29 (by decide) ?_
    exact zr_zret (pc := 30) h rfl dX2_readGroup_30 (zRp hf).1 (zRp hf).2
  · have hf := hf.2 b35
    refine zr_aload_n (pc := 18) h dX2_readGroup_18 rfl rfl ?_
    refine zf_X2_18 (pc := 19) h gkc_17 dX2_readGroup_19 ?_
    refine zr_iconst (pc := 22) (v := (3 : Int32)) h dX2_readGroup_22 (by decide) ?_
    obtain ⟨x4, μ5, ex4, hf⟩ := zBp_s hf
    refine zm_X2_94 (pc := 23) h gkc_1 ⟨by decide, by decide⟩ (cX7_pass_ok ex4) rfl (Nat.le_of_ble_eq_true rfl) dX2_readGroup_23 rfl ?_
    have hf := zIf_s hf
    refine zr_if_ne (pc := 26) (tgt := 31) h dX2_readGroup_26 rfl (fun b34 => ?_) (fun b34 => ?_)
    · have hf := hf.2 b34
      refine zr_aload_n (pc := 31) h dX2_readGroup_31 rfl rfl ?_
      refine zf_X2_18 (pc := 32) h gkc_17 dX2_readGroup_32 ?_
      refine zr_iconst (pc := 35) (v := (1 : Int32)) h dX2_readGroup_35 (by decide) ?_
      refine zr_bipush (pc := 36) (v := (40 : Int32)) h dX2_readGroup_36 (by decide) ?_
      obtain ⟨x6, μ7, ex6, hf⟩ := zBp_s hf
      refine zm_X2_97 (pc := 38) h gkc_1 ⟨by decide, by decide⟩ (cX7_number_ok ex6) rfl (Nat.le_of_ble_eq_true rfl) dX2_readGroup_38 rfl ?_
      refine zr_istore_n (pc := 41) h dX2_readGroup_41 rfl (by decide) rfl ?_
      refine zr_iconst (pc := 42) (v := (0 : Int32)) h dX2_readGroup_42 (by decide) ?_
      refine zr_istore_n (pc := 43) h dX2_readGroup_43 rfl (by decide) rfl ?_
      refine zr_iconst (pc := 44) (v := (0 : Int32)) h dX2_readGroup_44 (by decide) ?_
      refine zr_istore (pc := 45) h dX2_readGroup_45 (by decide) rfl ?_
      refine zr_iload_n (pc := 47) h dX2_readGroup_47 rfl rfl ?_
      refine zr_iconst (pc := 48) (v := (-1 : Int32)) h dX2_readGroup_48 (by decide) ?_
      have hf := zIf_s hf
      refine zr_icmp_eq (pc := 49) (tgt := 77) h dX2_readGroup_49 rfl (fun b33 => ?_) (fun b33 => ?_)
      · have hf := hf.1 b33
        exact zr_weak h [true, true, true, true, true, false] (fX2_readGroup_n77_ok h hf)
      · have hf := hf.2 b33
        refine zr_aload_n (pc := 52) h dX2_readGroup_52 rfl rfl ?_
        refine zf_X2_18 (pc := 53) h gkc_17 dX2_readGroup_53 ?_
        refine zr_iconst (pc := 56) (v := (4 : Int32)) h dX2_readGroup_56 (by decide) ?_
        obtain ⟨x28, μ29, ex28, hf⟩ := zBp_s hf
        refine zm_X2_101 (pc := 57) h gkc_1 ⟨by decide, by decide⟩ (cX7_passIfThere_ok ex28) rfl (Nat.le_of_ble_eq_true rfl) dX2_readGroup_57 rfl ?_
        have hf := zIf_s hf
        refine zr_if_eq (pc := 60) (tgt := 77) h dX2_readGroup_60 rfl (fun b32 => ?_) (fun b32 => ?_)
        · have hf := hf.1 b32
          exact zr_weak h [true, true, true, true, true, false] (fX2_readGroup_n77_ok h hf)
        · have hf := hf.2 b32
          refine zr_aload_n (pc := 63) h dX2_readGroup_63 rfl rfl ?_
          refine zf_X2_18 (pc := 64) h gkc_17 dX2_readGroup_64 ?_
          refine zr_iconst (pc := 67) (v := (0 : Int32)) h dX2_readGroup_67 (by decide) ?_
          refine zr_bipush (pc := 68) (v := (99 : Int32)) h dX2_readGroup_68 (by decide) ?_
          obtain ⟨x30, μ31, ex30, hf⟩ := zBp_s hf
          refine zm_X2_97 (pc := 70) h gkc_1 ⟨by decide, by decide⟩ (cX7_number_ok ex30) rfl (Nat.le_of_ble_eq_true rfl) dX2_readGroup_70 rfl ?_
          refine zr_istore_n (pc := 73) h dX2_readGroup_73 rfl (by decide) rfl ?_
          refine zr_goto (pc := 74) (tgt := 96) h dX2_readGroup_74 rfl ?_
          exact zr_weak h [true, true, true, true, true, false] (fX2_readGroup_n96_ok h hf)
    · have hf := hf.1 b34
      refine zr_iconst (pc := 29) (v := (0 : Int32)) h dX2_readGroup_29 (by decide) ?_
      exact zr_zret (pc := 30) h rfl dX2_readGroup_30 (zRp hf).1 (zRp hf).2

set_option maxRecDepth 100000 in
set_option maxHeartbeats 4000000 in
theorem fX2_readMember_n145_ok {l : Launch} {g : gG} {r : Int32} {ν : gM} {K : gKt} (h : gR l g cX2_readMember RX2 6 (some .boolean) (gRm 3 65) (some (.int r)) ν K) {y2 : Int32} {y3 : Int32} {y4 : Int32} {z0 : Int32} {μ : gM} (hf : fX2_readMember_n145 y2 y3 y4 z0 μ = some (r, ν)) : K 145 [some (.ref (g.1 + 17)), none, some (.int y2), some (.int y3), some (.int y4), none] [.int z0] μ := by
  unfold fX2_readMember_n145 at hf
  refine zr_istore (pc := 145) h dX2_readMember_145 (by decide) rfl ?_
  refine zr_aload_n (pc := 147) h dX2_readMember_147 rfl rfl ?_
  refine zf_X2_12 (pc := 148) h gkc_17 dX2_readMember_148 ?_
  refine zf_X2_123 (pc := 151) h gkc_18 dX2_readMember_151 ?_
  refine zr_iload_n (pc := 154) h dX2_readMember_154 rfl rfl ?_
  refine zr_dup2 (pc := 155) h dX2_readMember_155 rfl rfl ?_
  obtain ⟨q13, hf⟩ := zCk_s hf
  refine zr_iald (pc := 156) h gkc_25 q13 rfl dX2_readMember_156 ?_
  refine zr_iconst (pc := 157) (v := (1 : Int32)) h dX2_readMember_157 (by decide) ?_
  refine zr_iload_n (pc := 158) h dX2_readMember_158 rfl rfl ?_
  refine zr_ishl (pc := 159) h dX2_readMember_159 ?_
  refine zr_ior (pc := 160) h dX2_readMember_160 ?_
  obtain ⟨q14, hf⟩ := zCk_s hf
  refine zr_iast (pc := 161) h gkc_25 q14 rfl dX2_readMember_161 ?_
  refine zr_mu h (fun μ15 eμ15 => ?_)
  have hf := zLt_s eμ15 hf
  refine zr_aload_n (pc := 162) h dX2_readMember_162 rfl rfl ?_
  refine zf_X2_12 (pc := 163) h gkc_17 dX2_readMember_163 ?_
  refine zf_X2_126 (pc := 166) h gkc_18 dX2_readMember_166 ?_
  refine zr_iload_n (pc := 169) h dX2_readMember_169 rfl rfl ?_
  refine zr_bipush (pc := 170) (v := (6 : Int32)) h dX2_readMember_170 (by decide) ?_
  refine zr_imul (pc := 172) h dX2_readMember_172 ?_
  refine zr_iload_n (pc := 173) h dX2_readMember_173 rfl rfl ?_
  refine zr_iadd (pc := 174) h dX2_readMember_174 ?_
  refine zr_iload (pc := 175) h dX2_readMember_175 rfl ?_
  obtain ⟨q16, hf⟩ := zCk_s hf
  refine zr_iast (pc := 177) h gkc_26 q16 rfl dX2_readMember_177 ?_
  refine zr_mu h (fun μ17 eμ17 => ?_)
  have hf := zLt_s eμ17 hf
  refine zr_aload_n (pc := 178) h dX2_readMember_178 rfl rfl ?_
  refine zf_X2_12 (pc := 179) h gkc_17 dX2_readMember_179 ?_
  refine zf_X2_129 (pc := 182) h gkc_18 dX2_readMember_182 ?_
  refine zr_iload_n (pc := 185) h dX2_readMember_185 rfl rfl ?_
  refine zr_bipush (pc := 186) (v := (6 : Int32)) h dX2_readMember_186 (by decide) ?_
  refine zr_imul (pc := 188) h dX2_readMember_188 ?_
  refine zr_iload_n (pc := 189) h dX2_readMember_189 rfl rfl ?_
  refine zr_iadd (pc := 190) h dX2_readMember_190 ?_
  refine zr_iload (pc := 191) h dX2_readMember_191 rfl ?_
  obtain ⟨q18, hf⟩ := zCk_s hf
  refine zr_iast (pc := 193) h gkc_27 q18 rfl dX2_readMember_193 ?_
  refine zr_mu h (fun μ19 eμ19 => ?_)
  have hf := zLt_s eμ19 hf
  refine zr_iload (pc := 194) h dX2_readMember_194 rfl ?_
  refine zr_iconst (pc := 196) (v := (-1 : Int32)) h dX2_readMember_196 (by decide) ?_
  have hf := zIf_s hf
  refine zr_icmp_eq (pc := 197) (tgt := 204) h dX2_readMember_197 rfl (fun b20 => ?_) (fun b20 => ?_)
  · have hf := hf.1 b20
    refine zr_iconst (pc := 204) (v := (0 : Int32)) h dX2_readMember_204 (by decide) ?_
    exact zr_zret (pc := 205) h rfl dX2_readMember_205 (zRp hf).1 (zRp hf).2
  · have hf := hf.2 b20
    refine zr_iconst (pc := 200) (v := (1 : Int32)) h dX2_readMember_200 (by decide) ?_
    refine zr_goto (pc := 201) (tgt := 205) h dX2_readMember_201 rfl ?_
    exact zr_zret (pc := 205) h rfl dX2_readMember_205 (zRp hf).1 (zRp hf).2

set_option maxRecDepth 100000 in
set_option maxHeartbeats 4000000 in
theorem fX2_readMember_n109_ok {l : Launch} {g : gG} {r : Int32} {ν : gM} {K : gKt} (h : gR l g cX2_readMember RX2 6 (some .boolean) (gRm 3 65) (some (.int r)) ν K) {y2 : Int32} {y3 : Int32} {z0 : Int32} {μ : gM} (hf : fX2_readMember_n109 y2 y3 z0 μ = some (r, ν)) : K 109 [some (.ref (g.1 + 17)), none, some (.int y2), some (.int y3), none, none] [.int z0] μ := by
  unfold fX2_readMember_n109 at hf
  refine zr_istore (pc := 109) h dX2_readMember_109 (by decide) rfl ?_
  refine zr_iload (pc := 111) h dX2_readMember_111 rfl ?_
  refine zr_iconst (pc := 113) (v := (-1 : Int32)) h dX2_readMember_113 (by decide) ?_
  have hf := zIf_s hf
  refine zr_icmp_ne (pc := 114) (tgt := 119) h dX2_readMember_114 rfl (fun b24 => ?_) (fun b24 => ?_)
  · have hf := hf.2 b24
    refine zr_aload_n (pc := 119) h dX2_readMember_119 rfl rfl ?_
    refine zf_X2_18 (pc := 120) h gkc_17 dX2_readMember_120 ?_
    refine zr_bipush (pc := 123) (v := (10 : Int32)) h dX2_readMember_123 (by decide) ?_
    obtain ⟨x11, μ12, ex11, hf⟩ := zBp_s hf
    refine zm_X2_101 (pc := 125) h gkc_1 ⟨by decide, by decide⟩ (cX7_passIfThere_ok ex11) rfl (Nat.le_of_ble_eq_true rfl) dX2_readMember_125 rfl ?_
    have hf := zIf_s hf
    refine zr_if_eq (pc := 128) (tgt := 144) h dX2_readMember_128 rfl (fun b23 => ?_) (fun b23 => ?_)
    · have hf := hf.1 b23
      refine zr_iconst (pc := 144) (v := (1 : Int32)) h dX2_readMember_144 (by decide) ?_
      exact zr_weak h [true, false, true, true, true, false] (fX2_readMember_n145_ok h hf)
    · have hf := hf.2 b23
      refine zr_aload_n (pc := 131) h dX2_readMember_131 rfl rfl ?_
      refine zf_X2_18 (pc := 132) h gkc_17 dX2_readMember_132 ?_
      refine zr_iconst (pc := 135) (v := (0 : Int32)) h dX2_readMember_135 (by decide) ?_
      refine zr_bipush (pc := 136) (v := (99 : Int32)) h dX2_readMember_136 (by decide) ?_
      obtain ⟨x21, μ22, ex21, hf⟩ := zBp_s hf
      refine zm_X2_97 (pc := 138) h gkc_1 ⟨by decide, by decide⟩ (cX7_number_ok ex21) rfl (Nat.le_of_ble_eq_true rfl) dX2_readMember_138 rfl ?_
      refine zr_goto (pc := 141) (tgt := 145) h dX2_readMember_141 rfl ?_
      exact zr_weak h [true, false, true, true, true, false] (fX2_readMember_n145_ok h hf)
  · have hf := hf.1 b24
    refine zr_iconst (pc := 117) (v := (0 : Int32)) h dX2_readMember_117 (by decide) ?_
    exact zr_zret (pc := 118) h rfl dX2_readMember_118 (zRp hf).1 (zRp hf).2

set_option maxRecDepth 100000 in
set_option maxHeartbeats 4000000 in
theorem cX2_readMember_ok {l : Launch} {g : gG} {μ : gM} {r : Int32} {ν : gM} (hf : fX2_readMember μ = some (r, ν)) : gMet l g yX2_readMember cX2_readMember 6 (some .boolean) 3 65 [.ref (g.1 + 17)] μ (some (.int r)) ν := by
  refine gMet_of (gIni [.ref (g.1 + 17)] ++ List.replicate 5 none) (by decide) (gIni_ok _ _) (Nat.le_of_ble_eq_true rfl) (fun K h => ?_)
  show K 0 [some (.ref (g.1 + 17)), none, none, none, none, none] [] μ
  unfold fX2_readMember at hf
  refine zr_aload_n (pc := 0) h dX2_readMember_0 rfl rfl ?_
  refine zf_X2_18 (pc := 1) h gkc_17 dX2_readMember_1 ?_
  refine zf_X2_38 (pc := 4) h gkc_1 dX2_readMember_4 ?_
  refine zr_topi h (fun x1 ex1 => ?_)
  have hf := zLt_s ex1 hf
  refine zr_istore_n (pc := 7) h dX2_readMember_7 rfl (by decide) rfl ?_
  refine zr_aload_n (pc := 8) h dX2_readMember_8 rfl rfl ?_
  refine zf_X2_18 (pc := 9) h gkc_17 dX2_readMember_9 ?_
  refine zr_aload_n (pc := 12) h dX2_readMember_12 rfl rfl ?_
  refine zf_X2_12 (pc := 13) h gkc_17 dX2_readMember_13 ?_
  refine zr_iconst (pc := 16) (v := (0 : Int32)) h dX2_readMember_16 (by decide) ?_
  obtain ⟨x2, μ3, ex2, hf⟩ := zBp_s hf
  refine zm_X2_116 (pc := 17) h gkc_1 ⟨by decide, by decide⟩ (cX7_known_ok gkc_18 ex2) rfl (Nat.le_of_ble_eq_true rfl) dX2_readMember_17 rfl ?_
  refine zr_istore_n (pc := 20) h dX2_readMember_20 rfl (by decide) rfl ?_
  refine zr_iload_n (pc := 21) h dX2_readMember_21 rfl rfl ?_
  refine zr_iconst (pc := 22) (v := (-1 : Int32)) h dX2_readMember_22 (by decide) ?_
  have hf := zIf_s hf
  refine zr_icmp_eq (pc := 23) (tgt := 38) h dX2_readMember_23 rfl (fun b34 => ?_) (fun b34 => ?_)
  · have hf := hf.1 b34
    refine zr_iconst (pc := 38) (v := (0 : Int32)) h dX2_readMember_38 (by decide) ?_
    exact zr_zret (pc := 39) h rfl dX2_readMember_39 (zRp hf).1 (zRp hf).2
  · have hf := hf.2 b34
    refine zr_aload_n (pc := 26) h dX2_readMember_26 rfl rfl ?_
    refine zf_X2_18 (pc := 27) h gkc_17 dX2_readMember_27 ?_
    refine zr_bipush (pc := 30) (v := (8 : Int32)) h dX2_readMember_30 (by decide) ?_
    obtain ⟨x4, μ5, ex4, hf⟩ := zBp_s hf
    refine zm_X2_94 (pc := 32) h gkc_1 ⟨by decide, by decide⟩ (cX7_pass_ok ex4) rfl (Nat.le_of_ble_eq_true rfl) dX2_readMember_32 rfl ?_
    have hf := zIf_s hf
    refine zr_if_ne (pc := 35) (tgt := 40) h dX2_readMember_35 rfl (fun b33 => ?_) (fun b33 => ?_)
    · have hf := hf.2 b33
      refine zr_aload_n (pc := 40) h dX2_readMember_40 rfl rfl ?_
      refine zf_X2_18 (pc := 41) h gkc_17 dX2_readMember_41 ?_
      refine zr_aload_n (pc := 44) h dX2_readMember_44 rfl rfl ?_
      refine zf_X2_12 (pc := 45) h gkc_17 dX2_readMember_45 ?_
      refine zr_iconst (pc := 48) (v := (2 : Int32)) h dX2_readMember_48 (by decide) ?_
      obtain ⟨x6, μ7, ex6, hf⟩ := zBp_s hf
      refine zm_X2_116 (pc := 49) h gkc_1 ⟨by decide, by decide⟩ (cX7_known_ok gkc_18 ex6) rfl (Nat.le_of_ble_eq_true rfl) dX2_readMember_49 rfl ?_
      refine zr_istore_n (pc := 52) h dX2_readMember_52 rfl (by decide) rfl ?_
      refine zr_iload_n (pc := 53) h dX2_readMember_53 rfl rfl ?_
      refine zr_iconst (pc := 54) (v := (-1 : Int32)) h dX2_readMember_54 (by decide) ?_
      have hf := zIf_s hf
      refine zr_icmp_ne (pc := 55) (tgt := 60) h dX2_readMember_55 rfl (fun b32 => ?_) (fun b32 => ?_)
      · have hf := hf.2 b32
        refine zr_aload_n (pc := 60) h dX2_readMember_60 rfl rfl ?_
        refine zf_X2_12 (pc := 61) h gkc_17 dX2_readMember_61 ?_
        refine zr_iload_n (pc := 64) h dX2_readMember_64 rfl rfl ?_
        refine zr_iload_n (pc := 65) h dX2_readMember_65 rfl rfl ?_
        obtain ⟨x8, ex8, hf⟩ := zBd_s hf
        refine zm_X2_120 (pc := 66) h gkc_18 ⟨by decide, by decide⟩ (cX1_isMember_ok gkc_18 ex8) rfl (Nat.le_of_ble_eq_true rfl) dX2_readMember_66 rfl ?_
        have hf := zIf_s hf
        refine zr_if_eq (pc := 69) (tgt := 82) h dX2_readMember_69 rfl (fun b31 => ?_) (fun b31 => ?_)
        · have hf := hf.1 b31
          refine zr_aload_n (pc := 82) h dX2_readMember_82 rfl rfl ?_
          refine zf_X2_18 (pc := 83) h gkc_17 dX2_readMember_83 ?_
          refine zr_bipush (pc := 86) (v := (9 : Int32)) h dX2_readMember_86 (by decide) ?_
          obtain ⟨x9, μ10, ex9, hf⟩ := zBp_s hf
          refine zm_X2_94 (pc := 88) h gkc_1 ⟨by decide, by decide⟩ (cX7_pass_ok ex9) rfl (Nat.le_of_ble_eq_true rfl) dX2_readMember_88 rfl ?_
          have hf := zIf_s hf
          refine zr_if_eq (pc := 91) (tgt := 108) h dX2_readMember_91 rfl (fun b27 => ?_) (fun b27 => ?_)
          · have hf := hf.1 b27
            refine zr_iconst (pc := 108) (v := (-1 : Int32)) h dX2_readMember_108 (by decide) ?_
            exact zr_weak h [true, false, true, true, false, false] (fX2_readMember_n109_ok h hf)
          · have hf := hf.2 b27
            refine zr_aload_n (pc := 94) h dX2_readMember_94 rfl rfl ?_
            refine zf_X2_18 (pc := 95) h gkc_17 dX2_readMember_95 ?_
            refine zr_iconst (pc := 98) (v := (1 : Int32)) h dX2_readMember_98 (by decide) ?_
            refine zr_sipush (pc := 99) (v := (255 : Int32)) h dX2_readMember_99 (by decide) ?_
            obtain ⟨x25, μ26, ex25, hf⟩ := zBp_s hf
            refine zm_X2_97 (pc := 102) h gkc_1 ⟨by decide, by decide⟩ (cX7_number_ok ex25) rfl (Nat.le_of_ble_eq_true rfl) dX2_readMember_102 rfl ?_
            refine zr_goto (pc := 105) (tgt := 109) h dX2_readMember_105 rfl ?_
            exact zr_weak h [true, false, true, true, false, false] (fX2_readMember_n109_ok h hf)
        · have hf := hf.2 b31
          refine zr_aload_n (pc := 72) h dX2_readMember_72 rfl rfl ?_
          refine zf_X2_18 (pc := 73) h gkc_17 dX2_readMember_73 ?_
          refine zr_iconst (pc := 76) (v := (5 : Int32)) h dX2_readMember_76 (by decide) ?_
          refine zr_iload_n (pc := 77) h dX2_readMember_77 rfl rfl ?_
          obtain ⟨x28, μ29, ex28, hf⟩ := zBp_s hf
          refine zm_X2_46 (pc := 78) h gkc_1 ⟨by decide, by decide⟩ (cX7_refuse_ok ex28) rfl (Nat.le_of_ble_eq_true rfl) dX2_readMember_78 rfl ?_
          obtain ⟨q30, hf⟩ := zCk_s hf
          exact zr_zret (pc := 81) h (zBoo q30) dX2_readMember_81 (zRp hf).1 (zRp hf).2
      · have hf := hf.1 b32
        refine zr_iconst (pc := 58) (v := (0 : Int32)) h dX2_readMember_58 (by decide) ?_
        exact zr_zret (pc := 59) h rfl dX2_readMember_59 (zRp hf).1 (zRp hf).2
    · have hf := hf.1 b33
      refine zr_iconst (pc := 38) (v := (0 : Int32)) h dX2_readMember_38 (by decide) ?_
      exact zr_zret (pc := 39) h rfl dX2_readMember_39 (zRp hf).1 (zRp hf).2

set_option maxRecDepth 100000 in
set_option maxHeartbeats 4000000 in
theorem fX2_readTrack_n108_ok {l : Launch} {g : gG} {r : Int32} {ν : gM} {K : gKt} (h : gR l g cX2_readTrack RX2 6 (some .boolean) (gRm 4 89) (some (.int r)) ν K) {y1 : Int32} {y3 : Int32} {z0 : Int32} {μ : gM} (hf : fX2_readTrack_n108 y1 y3 z0 μ = some (r, ν)) : K 108 [some (.ref (g.1 + 17)), some (.int y1), none, some (.int y3), none, none] [.int z0] μ := by
  unfold fX2_readTrack_n108 at hf
  refine zr_istore (pc := 108) h dX2_readTrack_108 (by decide) rfl ?_
  refine zr_aload_n (pc := 110) h dX2_readTrack_110 rfl rfl ?_
  refine zf_X2_12 (pc := 111) h gkc_17 dX2_readTrack_111 ?_
  refine zf_X2_71 (pc := 114) h gkc_18 dX2_readTrack_114 ?_
  refine zr_topi h (fun x11 ex11 => ?_)
  have hf := zLt_s ex11 hf
  refine zr_istore (pc := 117) h dX2_readTrack_117 (by decide) rfl ?_
  refine zr_aload_n (pc := 119) h dX2_readTrack_119 rfl rfl ?_
  refine zf_X2_12 (pc := 120) h gkc_17 dX2_readTrack_120 ?_
  refine zf_X2_139 (pc := 123) h gkc_18 dX2_readTrack_123 ?_
  refine zr_iload (pc := 126) h dX2_readTrack_126 rfl ?_
  refine zr_iload_n (pc := 128) h dX2_readTrack_128 rfl rfl ?_
  obtain ⟨q12, hf⟩ := zCk_s hf
  refine zr_iast (pc := 129) h gkc_28 q12 rfl dX2_readTrack_129 ?_
  refine zr_mu h (fun μ13 eμ13 => ?_)
  have hf := zLt_s eμ13 hf
  refine zr_aload_n (pc := 130) h dX2_readTrack_130 rfl rfl ?_
  refine zf_X2_12 (pc := 131) h gkc_17 dX2_readTrack_131 ?_
  refine zf_X2_142 (pc := 134) h gkc_18 dX2_readTrack_134 ?_
  refine zr_iload (pc := 137) h dX2_readTrack_137 rfl ?_
  refine zr_iload_n (pc := 139) h dX2_readTrack_139 rfl rfl ?_
  obtain ⟨q14, hf⟩ := zCk_s hf
  refine zr_iast (pc := 140) h gkc_29 q14 rfl dX2_readTrack_140 ?_
  refine zr_mu h (fun μ15 eμ15 => ?_)
  have hf := zLt_s eμ15 hf
  refine zr_aload_n (pc := 141) h dX2_readTrack_141 rfl rfl ?_
  refine zf_X2_12 (pc := 142) h gkc_17 dX2_readTrack_142 ?_
  refine zf_X2_145 (pc := 145) h gkc_18 dX2_readTrack_145 ?_
  refine zr_iload (pc := 148) h dX2_readTrack_148 rfl ?_
  refine zr_iload (pc := 150) h dX2_readTrack_150 rfl ?_
  obtain ⟨q16, hf⟩ := zCk_s hf
  refine zr_iast (pc := 152) h gkc_30 q16 rfl dX2_readTrack_152 ?_
  refine zr_mu h (fun μ17 eμ17 => ?_)
  have hf := zLt_s eμ17 hf
  refine zr_aload_n (pc := 153) h dX2_readTrack_153 rfl rfl ?_
  refine zf_X2_12 (pc := 154) h gkc_17 dX2_readTrack_154 ?_
  refine zr_iload (pc := 157) h dX2_readTrack_157 rfl ?_
  refine zr_iconst (pc := 159) (v := (1 : Int32)) h dX2_readTrack_159 (by decide) ?_
  refine zr_iadd (pc := 160) h dX2_readTrack_160 ?_
  refine zp_X2_71 (pc := 161) h gkc_18 dX2_readTrack_161 ?_
  refine zr_mu h (fun μ18 eμ18 => ?_)
  have hf := zLt_s eμ18 hf
  refine zr_iload (pc := 164) h dX2_readTrack_164 rfl ?_
  refine zr_iconst (pc := 166) (v := (-1 : Int32)) h dX2_readTrack_166 (by decide) ?_
  have hf := zIf_s hf
  refine zr_icmp_eq (pc := 167) (tgt := 174) h dX2_readTrack_167 rfl (fun b19 => ?_) (fun b19 => ?_)
  · have hf := hf.1 b19
    refine zr_iconst (pc := 174) (v := (0 : Int32)) h dX2_readTrack_174 (by decide) ?_
    exact zr_zret (pc := 175) h rfl dX2_readTrack_175 (zRp hf).1 (zRp hf).2
  · have hf := hf.2 b19
    refine zr_iconst (pc := 170) (v := (1 : Int32)) h dX2_readTrack_170 (by decide) ?_
    refine zr_goto (pc := 171) (tgt := 175) h dX2_readTrack_171 rfl ?_
    exact zr_zret (pc := 175) h rfl dX2_readTrack_175 (zRp hf).1 (zRp hf).2

set_option maxRecDepth 100000 in
set_option maxHeartbeats 4000000 in
theorem cX2_readTrack_ok {l : Launch} {g : gG} {μ : gM} {r : Int32} {ν : gM} (hf : fX2_readTrack μ = some (r, ν)) : gMet l g yX2_readTrack cX2_readTrack 6 (some .boolean) 4 89 [.ref (g.1 + 17)] μ (some (.int r)) ν := by
  refine gMet_of (gIni [.ref (g.1 + 17)] ++ List.replicate 5 none) (by decide) (gIni_ok _ _) (Nat.le_of_ble_eq_true rfl) (fun K h => ?_)
  show K 0 [some (.ref (g.1 + 17)), none, none, none, none, none] [] μ
  unfold fX2_readTrack at hf
  refine zr_aload_n (pc := 0) h dX2_readTrack_0 rfl rfl ?_
  refine zf_X2_18 (pc := 1) h gkc_17 dX2_readTrack_1 ?_
  refine zr_aload_n (pc := 4) h dX2_readTrack_4 rfl rfl ?_
  refine zf_X2_12 (pc := 5) h gkc_17 dX2_readTrack_5 ?_
  obtain ⟨x1, μ2, ex1, hf⟩ := zBp_s hf
  refine zm_X2_132 (pc := 8) h gkc_1 ⟨by decide, by decide⟩ (cX7_knownMember_ok gkc_18 ex1) rfl (Nat.le_of_ble_eq_true rfl) dX2_readTrack_8 rfl ?_
  refine zr_istore_n (pc := 11) h dX2_readTrack_11 rfl (by decide) rfl ?_
  refine zr_iload_n (pc := 12) h dX2_readTrack_12 rfl rfl ?_
  refine zr_iconst (pc := 13) (v := (-1 : Int32)) h dX2_readTrack_13 (by decide) ?_
  have hf := zIf_s hf
  refine zr_icmp_eq (pc := 14) (tgt := 29) h dX2_readTrack_14 rfl (fun b29 => ?_) (fun b29 => ?_)
  · have hf := hf.1 b29
    refine zr_iconst (pc := 29) (v := (0 : Int32)) h dX2_readTrack_29 (by decide) ?_
    exact zr_zret (pc := 30) h rfl dX2_readTrack_30 (zRp hf).1 (zRp hf).2
  · have hf := hf.2 b29
    refine zr_aload_n (pc := 17) h dX2_readTrack_17 rfl rfl ?_
    refine zf_X2_18 (pc := 18) h gkc_17 dX2_readTrack_18 ?_
    refine zr_bipush (pc := 21) (v := (12 : Int32)) h dX2_readTrack_21 (by decide) ?_
    obtain ⟨x3, μ4, ex3, hf⟩ := zBp_s hf
    refine zm_X2_94 (pc := 23) h gkc_1 ⟨by decide, by decide⟩ (cX7_pass_ok ex3) rfl (Nat.le_of_ble_eq_true rfl) dX2_readTrack_23 rfl ?_
    have hf := zIf_s hf
    refine zr_if_ne (pc := 26) (tgt := 31) h dX2_readTrack_26 rfl (fun b28 => ?_) (fun b28 => ?_)
    · have hf := hf.2 b28
      refine zr_aload_n (pc := 31) h dX2_readTrack_31 rfl rfl ?_
      refine zf_X2_18 (pc := 32) h gkc_17 dX2_readTrack_32 ?_
      refine zf_X2_38 (pc := 35) h gkc_1 dX2_readTrack_35 ?_
      refine zr_topi h (fun x5 ex5 => ?_)
      have hf := zLt_s ex5 hf
      refine zr_istore_n (pc := 38) h dX2_readTrack_38 rfl (by decide) rfl ?_
      refine zr_aload_n (pc := 39) h dX2_readTrack_39 rfl rfl ?_
      refine zf_X2_18 (pc := 40) h gkc_17 dX2_readTrack_40 ?_
      refine zr_aload_n (pc := 43) h dX2_readTrack_43 rfl rfl ?_
      refine zf_X2_12 (pc := 44) h gkc_17 dX2_readTrack_44 ?_
      refine zr_iconst (pc := 47) (v := (1 : Int32)) h dX2_readTrack_47 (by decide) ?_
      obtain ⟨x6, μ7, ex6, hf⟩ := zBp_s hf
      refine zm_X2_116 (pc := 48) h gkc_1 ⟨by decide, by decide⟩ (cX7_known_ok gkc_18 ex6) rfl (Nat.le_of_ble_eq_true rfl) dX2_readTrack_48 rfl ?_
      refine zr_istore_n (pc := 51) h dX2_readTrack_51 rfl (by decide) rfl ?_
      refine zr_iload_n (pc := 52) h dX2_readTrack_52 rfl rfl ?_
      refine zr_iconst (pc := 53) (v := (-1 : Int32)) h dX2_readTrack_53 (by decide) ?_
      have hf := zIf_s hf
      refine zr_icmp_ne (pc := 54) (tgt := 59) h dX2_readTrack_54 rfl (fun b27 => ?_) (fun b27 => ?_)
      · have hf := hf.2 b27
        refine zr_aload_n (pc := 59) h dX2_readTrack_59 rfl rfl ?_
        refine zf_X2_12 (pc := 60) h gkc_17 dX2_readTrack_60 ?_
        refine zr_iload_n (pc := 63) h dX2_readTrack_63 rfl rfl ?_
        refine zr_iload_n (pc := 64) h dX2_readTrack_64 rfl rfl ?_
        obtain ⟨x8, ex8, hf⟩ := zBd_s hf
        refine zm_X2_136 (pc := 65) h gkc_18 ⟨by decide, by decide⟩ (cX1_isTracked_ok gkc_18 ex8) rfl (Nat.le_of_ble_eq_true rfl) dX2_readTrack_65 rfl ?_
        have hf := zIf_s hf
        refine zr_if_eq (pc := 68) (tgt := 81) h dX2_readTrack_68 rfl (fun b26 => ?_) (fun b26 => ?_)
        · have hf := hf.1 b26
          refine zr_aload_n (pc := 81) h dX2_readTrack_81 rfl rfl ?_
          refine zf_X2_18 (pc := 82) h gkc_17 dX2_readTrack_82 ?_
          refine zr_bipush (pc := 85) (v := (13 : Int32)) h dX2_readTrack_85 (by decide) ?_
          obtain ⟨x9, μ10, ex9, hf⟩ := zBp_s hf
          refine zm_X2_94 (pc := 87) h gkc_1 ⟨by decide, by decide⟩ (cX7_pass_ok ex9) rfl (Nat.le_of_ble_eq_true rfl) dX2_readTrack_87 rfl ?_
          have hf := zIf_s hf
          refine zr_if_eq (pc := 90) (tgt := 107) h dX2_readTrack_90 rfl (fun b22 => ?_) (fun b22 => ?_)
          · have hf := hf.1 b22
            refine zr_iconst (pc := 107) (v := (-1 : Int32)) h dX2_readTrack_107 (by decide) ?_
            exact zr_weak h [true, true, false, true, false, false] (fX2_readTrack_n108_ok h hf)
          · have hf := hf.2 b22
            refine zr_aload_n (pc := 93) h dX2_readTrack_93 rfl rfl ?_
            refine zf_X2_18 (pc := 94) h gkc_17 dX2_readTrack_94 ?_
            refine zr_iconst (pc := 97) (v := (1 : Int32)) h dX2_readTrack_97 (by decide) ?_
            refine zr_sipush (pc := 98) (v := (254 : Int32)) h dX2_readTrack_98 (by decide) ?_
            obtain ⟨x20, μ21, ex20, hf⟩ := zBp_s hf
            refine zm_X2_97 (pc := 101) h gkc_1 ⟨by decide, by decide⟩ (cX7_number_ok ex20) rfl (Nat.le_of_ble_eq_true rfl) dX2_readTrack_101 rfl ?_
            refine zr_goto (pc := 104) (tgt := 108) h dX2_readTrack_104 rfl ?_
            exact zr_weak h [true, true, false, true, false, false] (fX2_readTrack_n108_ok h hf)
        · have hf := hf.2 b26
          refine zr_aload_n (pc := 71) h dX2_readTrack_71 rfl rfl ?_
          refine zf_X2_18 (pc := 72) h gkc_17 dX2_readTrack_72 ?_
          refine zr_iconst (pc := 75) (v := (5 : Int32)) h dX2_readTrack_75 (by decide) ?_
          refine zr_iload_n (pc := 76) h dX2_readTrack_76 rfl rfl ?_
          obtain ⟨x23, μ24, ex23, hf⟩ := zBp_s hf
          refine zm_X2_46 (pc := 77) h gkc_1 ⟨by decide, by decide⟩ (cX7_refuse_ok ex23) rfl (Nat.le_of_ble_eq_true rfl) dX2_readTrack_77 rfl ?_
          obtain ⟨q25, hf⟩ := zCk_s hf
          exact zr_zret (pc := 80) h (zBoo q25) dX2_readTrack_80 (zRp hf).1 (zRp hf).2
      · have hf := hf.1 b27
        refine zr_iconst (pc := 57) (v := (0 : Int32)) h dX2_readTrack_57 (by decide) ?_
        exact zr_zret (pc := 58) h rfl dX2_readTrack_58 (zRp hf).1 (zRp hf).2
    · have hf := hf.1 b28
      refine zr_iconst (pc := 29) (v := (0 : Int32)) h dX2_readTrack_29 (by decide) ?_
      exact zr_zret (pc := 30) h rfl dX2_readTrack_30 (zRp hf).1 (zRp hf).2

set_option maxRecDepth 100000 in
set_option maxHeartbeats 4000000 in
theorem fX2_readStatement_n66_ok {l : Launch} {g : gG} {r : Int32} {ν : gM} {K : gKt} (h : gR l g cX2_readStatement RX2 5 (some .boolean) (gRm 5 114) (some (.int r)) ν K) {y2 : Int32} {μ : gM} (hf : fX2_readStatement_n66 y2 μ = some (r, ν)) : K 66 [some (.ref (g.1 + 17)), none, some (.int y2), none, none] [] μ := by
  unfold fX2_readStatement_n66 at hf
  refine zr_aload_n (pc := 66) h dX2_readStatement_66 rfl rfl ?_
  refine zf_X2_18 (pc := 67) h gkc_17 dX2_readStatement_67 ?_
  refine zr_bipush (pc := 70) (v := (6 : Int32)) h dX2_readStatement_70 (by decide) ?_
  refine zr_iload_n (pc := 72) h dX2_readStatement_72 rfl rfl ?_
  obtain ⟨x3, μ4, ex3, hf⟩ := zBp_s hf
  refine zm_X2_46 (pc := 73) h gkc_1 ⟨by decide, by decide⟩ (cX7_refuse_ok ex3) rfl (Nat.le_of_ble_eq_true rfl) dX2_readStatement_73 rfl ?_
  obtain ⟨q5, hf⟩ := zCk_s hf
  exact zr_zret (pc := 76) h (zBoo q5) dX2_readStatement_76 (zRp hf).1 (zRp hf).2

set_option maxRecDepth 100000 in
set_option maxHeartbeats 4000000 in
theorem fX2_readStatement_n154_ok {l : Launch} {g : gG} {r : Int32} {ν : gM} {K : gKt} (h : gR l g cX2_readStatement RX2 5 (some .boolean) (gRm 5 114) (some (.int r)) ν K) {y4 : Int32} {μ : gM} (hf : fX2_readStatement_n154 y4 μ = some (r, ν)) : K 154 [some (.ref (g.1 + 17)), none, none, none, some (.int y4)] [] μ := by
  unfold fX2_readStatement_n154 at hf
  refine zr_iload (pc := 154) h dX2_readStatement_154 rfl ?_
  have hf := zIf_s hf
  refine zr_if_eq (pc := 156) (tgt := 173) h dX2_readStatement_156 rfl (fun b14 => ?_) (fun b14 => ?_)
  · have hf := hf.1 b14
    refine zr_iconst (pc := 173) (v := (0 : Int32)) h dX2_readStatement_173 (by decide) ?_
    exact zr_zret (pc := 174) h rfl dX2_readStatement_174 (zRp hf).1 (zRp hf).2
  · have hf := hf.2 b14
    refine zr_aload_n (pc := 159) h dX2_readStatement_159 rfl rfl ?_
    refine zf_X2_18 (pc := 160) h gkc_17 dX2_readStatement_160 ?_
    obtain ⟨x11, μ12, ex11, hf⟩ := zBp_s hf
    refine zm_X2_68 (pc := 163) h gkc_1 ⟨by decide, by decide⟩ (cX7_passStop_ok ex11) rfl (Nat.le_of_ble_eq_true rfl) dX2_readStatement_163 rfl ?_
    have hf := zIf_s hf
    refine zr_if_eq (pc := 166) (tgt := 173) h dX2_readStatement_166 rfl (fun b13 => ?_) (fun b13 => ?_)
    · have hf := hf.1 b13
      refine zr_iconst (pc := 173) (v := (0 : Int32)) h dX2_readStatement_173 (by decide) ?_
      exact zr_zret (pc := 174) h rfl dX2_readStatement_174 (zRp hf).1 (zRp hf).2
    · have hf := hf.2 b13
      refine zr_iconst (pc := 169) (v := (1 : Int32)) h dX2_readStatement_169 (by decide) ?_
      refine zr_goto (pc := 170) (tgt := 174) h dX2_readStatement_170 rfl ?_
      exact zr_zret (pc := 174) h rfl dX2_readStatement_174 (zRp hf).1 (zRp hf).2

set_option maxRecDepth 100000 in
set_option maxHeartbeats 4000000 in
theorem fX2_readStatement_n52_ok {l : Launch} {g : gG} {r : Int32} {ν : gM} {K : gKt} (h : gR l g cX2_readStatement RX2 5 (some .boolean) (gRm 5 114) (some (.int r)) ν K) {y1 : Int32} {y2 : Int32} {y3 : Int32} {μ : gM} (hf : fX2_readStatement_n52 y1 y2 y3 μ = some (r, ν)) : K 52 [some (.ref (g.1 + 17)), some (.int y1), some (.int y2), some (.int y3), none] [] μ := by
  unfold fX2_readStatement_n52 at hf
  refine zr_iload_n (pc := 52) h dX2_readStatement_52 rfl rfl ?_
  refine zr_bipush (pc := 53) (v := (60 : Int32)) h dX2_readStatement_53 (by decide) ?_
  have hf := zIf_s hf
  refine zr_icmp_ge (pc := 55) (tgt := 66) h dX2_readStatement_55 rfl (fun b24 => ?_) (fun b24 => ?_)
  · have hf := hf.1 b24
    exact zr_weak h [true, false, true, false, false] (fX2_readStatement_n66_ok h hf)
  · have hf := hf.2 b24
    refine zr_aload_n (pc := 58) h dX2_readStatement_58 rfl rfl ?_
    refine zr_iload_n (pc := 59) h dX2_readStatement_59 rfl rfl ?_
    obtain ⟨x6, ex6, hf⟩ := zBd_s hf
    refine zm_X2_50 (pc := 60) h gkc_17 ⟨by decide, by decide⟩ (cX2_isFull_ok ex6) rfl (Nat.le_of_ble_eq_true rfl) dX2_readStatement_60 rfl ?_
    have hf := zIf_s hf
    refine zr_if_eq (pc := 63) (tgt := 77) h dX2_readStatement_63 rfl (fun b23 => ?_) (fun b23 => ?_)
    · have hf := hf.1 b23
      refine zr_aload_n (pc := 77) h dX2_readStatement_77 rfl rfl ?_
      refine zf_X2_18 (pc := 78) h gkc_17 dX2_readStatement_78 ?_
      obtain ⟨μ7, eμ7, hf⟩ := zBd_s hf
      refine zm_X2_53 (pc := 81) h gkc_1 ⟨by decide, by decide⟩ (cX7_advance_ok eμ7) rfl (Nat.le_of_ble_eq_true rfl) dX2_readStatement_81 rfl ?_
      refine zr_iload_n (pc := 84) h dX2_readStatement_84 rfl rfl ?_
      have hf := zIf_s hf
      rcases Decidable.em (y3 = (2 : Int32)) with b8 | b8
      · have hf := hf.1 b8
        refine zr_lookup (pc := 85) (tgt := 120) (off := 35) h dX2_readStatement_85 (by decide) (by rw [b8]; decide) rfl ?_
        refine zr_aload_n (pc := 120) h dX2_readStatement_120 rfl rfl ?_
        obtain ⟨x9, μ10, ex9, hf⟩ := zBp_s hf
        refine zm_X2_56 (pc := 121) h gkc_17 ⟨by decide, by decide⟩ (cX2_readGroup_ok ex9) rfl (Nat.le_of_ble_eq_true rfl) dX2_readStatement_121 rfl ?_
        refine zr_istore (pc := 124) h dX2_readStatement_124 (by decide) rfl ?_
        refine zr_goto (pc := 126) (tgt := 154) h dX2_readStatement_126 rfl ?_
        exact zr_weak h [true, false, false, false, true] (fX2_readStatement_n154_ok h hf)
      · have hf := hf.2 b8
        have hf := zIf_s hf
        rcases Decidable.em (y3 = (7 : Int32)) with b15 | b15
        · have hf := hf.1 b15
          refine zr_lookup (pc := 85) (tgt := 129) (off := 44) h dX2_readStatement_85 (by decide) (by rw [b15]; decide) rfl ?_
          refine zr_aload_n (pc := 129) h dX2_readStatement_129 rfl rfl ?_
          obtain ⟨x16, μ17, ex16, hf⟩ := zBp_s hf
          refine zm_X2_59 (pc := 130) h gkc_17 ⟨by decide, by decide⟩ (cX2_readMember_ok ex16) rfl (Nat.le_of_ble_eq_true rfl) dX2_readStatement_130 rfl ?_
          refine zr_istore (pc := 133) h dX2_readStatement_133 (by decide) rfl ?_
          refine zr_goto (pc := 135) (tgt := 154) h dX2_readStatement_135 rfl ?_
          exact zr_weak h [true, false, false, false, true] (fX2_readStatement_n154_ok h hf)
        · have hf := hf.2 b15
          have hf := zIf_s hf
          rcases Decidable.em (y3 = (11 : Int32)) with b18 | b18
          · have hf := hf.1 b18
            refine zr_lookup (pc := 85) (tgt := 138) (off := 53) h dX2_readStatement_85 (by decide) (by rw [b18]; decide) rfl ?_
            refine zr_aload_n (pc := 138) h dX2_readStatement_138 rfl rfl ?_
            obtain ⟨x19, μ20, ex19, hf⟩ := zBp_s hf
            refine zm_X2_62 (pc := 139) h gkc_17 ⟨by decide, by decide⟩ (cX2_readTrack_ok ex19) rfl (Nat.le_of_ble_eq_true rfl) dX2_readStatement_139 rfl ?_
            refine zr_istore (pc := 142) h dX2_readStatement_142 (by decide) rfl ?_
            refine zr_goto (pc := 144) (tgt := 154) h dX2_readStatement_144 rfl ?_
            exact zr_weak h [true, false, false, false, true] (fX2_readStatement_n154_ok h hf)
          · have hf := hf.2 b18
            refine zr_lookup (pc := 85) (tgt := 147) (off := 62) h dX2_readStatement_85 (by decide) (zLook3 rfl rfl rfl b8 b15 b18) rfl ?_
            refine zr_aload_n (pc := 147) h dX2_readStatement_147 rfl rfl ?_
            refine zr_iload_n (pc := 148) h dX2_readStatement_148 rfl rfl ?_
            obtain ⟨x21, μ22, ex21, hf⟩ := zBp_s hf
            refine zm_X2_65 (pc := 149) h gkc_17 ⟨by decide, by decide⟩ (cX2_readName_ok ex21) rfl (Nat.le_of_ble_eq_true rfl) dX2_readStatement_149 rfl ?_
            refine zr_istore (pc := 152) h dX2_readStatement_152 (by decide) rfl ?_
            exact zr_weak h [true, false, false, false, true] (fX2_readStatement_n154_ok h hf)
    · have hf := hf.2 b23
      exact zr_weak h [true, false, true, false, false] (fX2_readStatement_n66_ok h hf)

set_option maxRecDepth 100000 in
set_option maxHeartbeats 4000000 in
theorem cX2_readStatement_ok {l : Launch} {g : gG} {a1 : Int32} {μ : gM} {r : Int32} {ν : gM} (hf : fX2_readStatement a1 μ = some (r, ν)) : gMet l g yX2_readStatement cX2_readStatement 5 (some .boolean) 5 114 [.ref (g.1 + 17), .int a1] μ (some (.int r)) ν := by
  refine gMet_of (gIni [.ref (g.1 + 17), .int a1] ++ List.replicate 3 none) (by decide) (gIni_ok _ _) (Nat.le_of_ble_eq_true rfl) (fun K h => ?_)
  show K 0 [some (.ref (g.1 + 17)), some (.int a1), none, none, none] [] μ
  unfold fX2_readStatement at hf
  refine zr_aload_n (pc := 0) h dX2_readStatement_0 rfl rfl ?_
  refine zf_X2_18 (pc := 1) h gkc_17 dX2_readStatement_1 ?_
  refine zf_X2_38 (pc := 4) h gkc_1 dX2_readStatement_4 ?_
  refine zr_topi h (fun x1 ex1 => ?_)
  have hf := zLt_s ex1 hf
  refine zr_istore_n (pc := 7) h dX2_readStatement_7 rfl (by decide) rfl ?_
  refine zr_aload_n (pc := 8) h dX2_readStatement_8 rfl rfl ?_
  refine zf_X2_18 (pc := 9) h gkc_17 dX2_readStatement_9 ?_
  obtain ⟨x2, ex2, hf⟩ := zBd_s hf
  refine zm_X2_42 (pc := 12) h gkc_1 ⟨by decide, by decide⟩ (cX7_ownWord_ok ex2) rfl (Nat.le_of_ble_eq_true rfl) dX2_readStatement_12 rfl ?_
  refine zr_istore_n (pc := 15) h dX2_readStatement_15 rfl (by decide) rfl ?_
  refine zr_iload_n (pc := 16) h dX2_readStatement_16 rfl rfl ?_
  have hf := zIf_s hf
  refine zr_if_eq (pc := 17) (tgt := 52) h dX2_readStatement_17 rfl (fun b32 => ?_) (fun b32 => ?_)
  · have hf := hf.1 b32
    exact zr_weak h [true, true, true, true, false] (fX2_readStatement_n52_ok h hf)
  · have hf := hf.2 b32
    refine zr_iload_n (pc := 20) h dX2_readStatement_20 rfl rfl ?_
    refine zr_iconst (pc := 21) (v := (1 : Int32)) h dX2_readStatement_21 (by decide) ?_
    have hf := zIf_s hf
    refine zr_icmp_eq (pc := 22) (tgt := 52) h dX2_readStatement_22 rfl (fun b31 => ?_) (fun b31 => ?_)
    · have hf := hf.1 b31
      exact zr_weak h [true, true, true, true, false] (fX2_readStatement_n52_ok h hf)
    · have hf := hf.2 b31
      refine zr_iload_n (pc := 25) h dX2_readStatement_25 rfl rfl ?_
      refine zr_iconst (pc := 26) (v := (2 : Int32)) h dX2_readStatement_26 (by decide) ?_
      have hf := zIf_s hf
      refine zr_icmp_eq (pc := 27) (tgt := 52) h dX2_readStatement_27 rfl (fun b30 => ?_) (fun b30 => ?_)
      · have hf := hf.1 b30
        exact zr_weak h [true, true, true, true, false] (fX2_readStatement_n52_ok h hf)
      · have hf := hf.2 b30
        refine zr_iload_n (pc := 30) h dX2_readStatement_30 rfl rfl ?_
        refine zr_bipush (pc := 31) (v := (7 : Int32)) h dX2_readStatement_31 (by decide) ?_
        have hf := zIf_s hf
        refine zr_icmp_eq (pc := 33) (tgt := 52) h dX2_readStatement_33 rfl (fun b29 => ?_) (fun b29 => ?_)
        · have hf := hf.1 b29
          exact zr_weak h [true, true, true, true, false] (fX2_readStatement_n52_ok h hf)
        · have hf := hf.2 b29
          refine zr_iload_n (pc := 36) h dX2_readStatement_36 rfl rfl ?_
          refine zr_bipush (pc := 37) (v := (11 : Int32)) h dX2_readStatement_37 (by decide) ?_
          have hf := zIf_s hf
          refine zr_icmp_eq (pc := 39) (tgt := 52) h dX2_readStatement_39 rfl (fun b28 => ?_) (fun b28 => ?_)
          · have hf := hf.1 b28
            exact zr_weak h [true, true, true, true, false] (fX2_readStatement_n52_ok h hf)
          · have hf := hf.2 b28
            refine zr_aload_n (pc := 42) h dX2_readStatement_42 rfl rfl ?_
            refine zf_X2_18 (pc := 43) h gkc_17 dX2_readStatement_43 ?_
            refine zr_iconst (pc := 46) (v := (1 : Int32)) h dX2_readStatement_46 (by decide) ?_
            refine zr_iload_n (pc := 47) h dX2_readStatement_47 rfl rfl ?_
            obtain ⟨x25, μ26, ex25, hf⟩ := zBp_s hf
            refine zm_X2_46 (pc := 48) h gkc_1 ⟨by decide, by decide⟩ (cX7_refuse_ok ex25) rfl (Nat.le_of_ble_eq_true rfl) dX2_readStatement_48 rfl ?_
            obtain ⟨q27, hf⟩ := zCk_s hf
            exact zr_zret (pc := 51) h (zBoo q27) dX2_readStatement_51 (zRp hf).1 (zRp hf).2

set_option maxRecDepth 100000 in
set_option maxHeartbeats 4000000 in
theorem fX2_read_l16_ok {l : Launch} {g : gG} {r : Int32} {ν : gM} {K : gKt} (h : gR l g cX2_read RX2 2 (some .boolean) (gRm 6 138) (some (.int r)) ν K) : ∀ (n : Nat) (y1 : Int32) (μ : gM), fX2_read_l16 n y1 μ = some (r, ν) → K 16 [some (.ref (g.1 + 17)), some (.int y1)] [] μ := by
  intro n
  induction n with
  | zero =>
    intro y1 μ hf
    cases (show (none : Option (Int32 × gM)) = some _ from hf)
  | succ n ih =>
    intro y1 μ hf
    unfold fX2_read_l16 at hf
    refine zr_iload_n (pc := 16) h dX2_read_16 rfl rfl ?_
    refine zr_bipush (pc := 17) (v := (60 : Int32)) h dX2_read_17 (by decide) ?_
    have hf := zIf_s hf
    refine zr_icmp_gt (pc := 19) (tgt := 48) h dX2_read_19 rfl (fun b9 => ?_) (fun b9 => ?_)
    · have hf := hf.1 b9
      refine zr_iconst (pc := 48) (v := (1 : Int32)) h dX2_read_48 (by decide) ?_
      exact zr_zret (pc := 49) h rfl dX2_read_49 (zRp hf).1 (zRp hf).2
    · have hf := hf.2 b9
      refine zr_aload_n (pc := 22) h dX2_read_22 rfl rfl ?_
      refine zf_X2_18 (pc := 23) h gkc_17 dX2_read_23 ?_
      obtain ⟨x3, ex3, hf⟩ := zBd_s hf
      refine zm_X2_30 (pc := 26) h gkc_1 ⟨by decide, by decide⟩ (cX7_isEnded_ok ex3) rfl (Nat.le_of_ble_eq_true rfl) dX2_read_26 rfl ?_
      have hf := zIf_s hf
      refine zr_if_ne (pc := 29) (tgt := 48) h dX2_read_29 rfl (fun b8 => ?_) (fun b8 => ?_)
      · have hf := hf.2 b8
        refine zr_iconst (pc := 48) (v := (1 : Int32)) h dX2_read_48 (by decide) ?_
        exact zr_zret (pc := 49) h rfl dX2_read_49 (zRp hf).1 (zRp hf).2
      · have hf := hf.1 b8
        refine zr_aload_n (pc := 32) h dX2_read_32 rfl rfl ?_
        refine zr_iload_n (pc := 33) h dX2_read_33 rfl rfl ?_
        obtain ⟨x4, μ5, ex4, hf⟩ := zBp_s hf
        refine zm_X2_34 (pc := 34) h gkc_17 ⟨by decide, by decide⟩ (cX2_readStatement_ok ex4) rfl (Nat.le_of_ble_eq_true rfl) dX2_read_34 rfl ?_
        have hf := zIf_s hf
        refine zr_if_ne (pc := 37) (tgt := 42) h dX2_read_37 rfl (fun b7 => ?_) (fun b7 => ?_)
        · have hf := hf.2 b7
          refine zr_iincx (pc := 42) h dX2_read_42 rfl (by decide) rfl (c := (1 : Int32)) (by decide) (fun x6 ex6 => ?_)
          have hf := zLt_s ex6 hf
          refine zr_goto (pc := 45) (tgt := 16) h dX2_read_45 rfl ?_
          exact zr_weak h [true, true] (ih _ _ hf)
        · have hf := hf.1 b7
          refine zr_iconst (pc := 40) (v := (0 : Int32)) h dX2_read_40 (by decide) ?_
          exact zr_zret (pc := 41) h rfl dX2_read_41 (zRp hf).1 (zRp hf).2

set_option maxRecDepth 100000 in
set_option maxHeartbeats 4000000 in
theorem cX2_read_ok {l : Launch} {g : gG} {μ : gM} {r : Int32} {ν : gM} (hf : fX2_read μ = some (r, ν)) : gMet l g yX2_read cX2_read 2 (some .boolean) 6 138 [.ref (g.1 + 17)] μ (some (.int r)) ν := by
  refine gMet_of (gIni [.ref (g.1 + 17)] ++ List.replicate 1 none) (by decide) (gIni_ok _ _) (Nat.le_of_ble_eq_true rfl) (fun K h => ?_)
  show K 0 [some (.ref (g.1 + 17)), none] [] μ
  unfold fX2_read at hf
  refine zr_aload_n (pc := 0) h dX2_read_0 rfl rfl ?_
  refine zf_X2_12 (pc := 1) h gkc_17 dX2_read_1 ?_
  obtain ⟨μ1, eμ1, hf⟩ := zBd_s hf
  refine zm_X2_22 (pc := 4) h gkc_18 ⟨by decide, by decide⟩ (cX1_clear_ok gkc_18 eμ1) rfl (Nat.le_of_ble_eq_true rfl) dX2_read_4 rfl ?_
  refine zr_aload_n (pc := 7) h dX2_read_7 rfl rfl ?_
  refine zf_X2_18 (pc := 8) h gkc_17 dX2_read_8 ?_
  obtain ⟨μ2, eμ2, hf⟩ := zBd_s hf
  refine zm_X2_25 (pc := 11) h gkc_1 ⟨by decide, by decide⟩ (cX7_open_ok eμ2) rfl (Nat.le_of_ble_eq_true rfl) dX2_read_11 rfl ?_
  refine zr_iconst (pc := 14) (v := (0 : Int32)) h dX2_read_14 (by decide) ?_
  refine zr_istore_n (pc := 15) h dX2_read_15 rfl (by decide) rfl ?_
  exact zr_weak h [true, true] (fX2_read_l16_ok h 100000 _ _ hf)

set_option maxRecDepth 100000 in
set_option maxHeartbeats 4000000 in
theorem cX6_readAt_ok {l : Launch} {g : gG} {a1 : Int32} {a2 : Int32} {μ : gM} {r : Int32} {ν : gM} (hf : fX6_readAt a1 a2 μ = some (r, ν)) : gMet l g yX6_readAt cX6_readAt 4 (some .int) 3 65 [.ref (g.1 + 31), .int a1, .int a2] μ (some (.int r)) ν := by
  refine gMet_of (gIni [.ref (g.1 + 31), .int a1, .int a2] ++ List.replicate 1 none) (by decide) (gIni_ok _ _) (Nat.le_of_ble_eq_true rfl) (fun K h => ?_)
  show K 0 [some (.ref (g.1 + 31)), some (.int a1), some (.int a2), none] [] μ
  unfold fX6_readAt at hf
  refine zr_aload_n (pc := 0) h dX6_readAt_0 rfl rfl ?_
  refine zf_X6_18 (pc := 1) h gkc_31 dX6_readAt_1 ?_
  refine zf_X6_50 (pc := 4) h gkc_1 dX6_readAt_4 ?_
  refine zr_topi h (fun x1 ex1 => ?_)
  have hf := zLt_s ex1 hf
  refine zr_istore_n (pc := 7) h dX6_readAt_7 rfl (by decide) rfl ?_
  refine zr_aload_n (pc := 8) h dX6_readAt_8 rfl rfl ?_
  refine zf_X6_18 (pc := 9) h gkc_31 dX6_readAt_9 ?_
  refine zr_bipush (pc := 12) (v := (14 : Int32)) h dX6_readAt_12 (by decide) ?_
  obtain ⟨x2, μ3, ex2, hf⟩ := zBp_s hf
  refine zm_X6_53 (pc := 14) h gkc_1 ⟨by decide, by decide⟩ (cX7_pass_ok ex2) rfl (Nat.le_of_ble_eq_true rfl) dX6_readAt_14 rfl ?_
  have hf := zIf_s hf
  refine zr_if_ne (pc := 17) (tgt := 22) h dX6_readAt_17 rfl (fun b9 => ?_) (fun b9 => ?_)
  · have hf := hf.2 b9
    refine zr_iload_n (pc := 22) h dX6_readAt_22 rfl rfl ?_
    refine zr_bipush (pc := 23) (v := (20 : Int32)) h dX6_readAt_23 (by decide) ?_
    have hf := zIf_s hf
    refine zr_icmp_lt (pc := 25) (tgt := 41) h dX6_readAt_25 rfl (fun b8 => ?_) (fun b8 => ?_)
    · have hf := hf.1 b8
      refine zr_aload_n (pc := 41) h dX6_readAt_41 rfl rfl ?_
      refine zf_X6_18 (pc := 42) h gkc_31 dX6_readAt_42 ?_
      refine zr_iload_n (pc := 45) h dX6_readAt_45 rfl rfl ?_
      refine zr_sipush (pc := 46) (v := (9999 : Int32)) h dX6_readAt_46 (by decide) ?_
      obtain ⟨x4, μ5, ex4, hf⟩ := zBp_s hf
      refine zm_X6_60 (pc := 49) h gkc_1 ⟨by decide, by decide⟩ (cX7_number_ok ex4) rfl (Nat.le_of_ble_eq_true rfl) dX6_readAt_49 rfl ?_
      exact zr_iret (pc := 52) h dX6_readAt_52 (zRp hf).1 (zRp hf).2
    · have hf := hf.2 b8
      refine zr_aload_n (pc := 28) h dX6_readAt_28 rfl rfl ?_
      refine zf_X6_18 (pc := 29) h gkc_31 dX6_readAt_29 ?_
      refine zr_bipush (pc := 32) (v := (6 : Int32)) h dX6_readAt_32 (by decide) ?_
      refine zr_iload_n (pc := 34) h dX6_readAt_34 rfl rfl ?_
      obtain ⟨x6, μ7, ex6, hf⟩ := zBp_s hf
      refine zm_X6_56 (pc := 35) h gkc_1 ⟨by decide, by decide⟩ (cX7_refuse_ok ex6) rfl (Nat.le_of_ble_eq_true rfl) dX6_readAt_35 rfl ?_
      refine zr_pop (pc := 38) h dX6_readAt_38 rfl ?_
      refine zr_iconst (pc := 39) (v := (-1 : Int32)) h dX6_readAt_39 (by decide) ?_
      exact zr_iret (pc := 40) h dX6_readAt_40 (zRp hf).1 (zRp hf).2
  · have hf := hf.1 b9
    refine zr_iconst (pc := 20) (v := (-1 : Int32)) h dX6_readAt_20 (by decide) ?_
    exact zr_iret (pc := 21) h dX6_readAt_21 (zRp hf).1 (zRp hf).2

set_option maxRecDepth 100000 in
set_option maxHeartbeats 4000000 in
theorem fX6_readWordEvent_n32_ok {l : Launch} {g : gG} {r : Int32} {ν : gM} {K : gKt} (h : gR l g cX6_readWordEvent RX6 4 (some .boolean) (gRm 4 89) (some (.int r)) ν K) {y1 : Int32} {y2 : Int32} {z0 : Int32} {μ : gM} (hf : fX6_readWordEvent_n32 y1 y2 z0 μ = some (r, ν)) : K 32 [some (.ref (g.1 + 31)), some (.int y1), some (.int y2), none] [.int z0] μ := by
  unfold fX6_readWordEvent_n32 at hf
  refine zr_istore_n (pc := 32) h dX6_readWordEvent_32 rfl (by decide) rfl ?_
  refine zr_iload_n (pc := 33) h dX6_readWordEvent_33 rfl rfl ?_
  refine zr_iconst (pc := 34) (v := (-1 : Int32)) h dX6_readWordEvent_34 (by decide) ?_
  have hf := zIf_s hf
  refine zr_icmp_ne (pc := 35) (tgt := 40) h dX6_readWordEvent_35 rfl (fun b6 => ?_) (fun b6 => ?_)
  · have hf := hf.2 b6
    refine zr_aload_n (pc := 40) h dX6_readWordEvent_40 rfl rfl ?_
    refine zf_X6_12 (pc := 41) h gkc_31 dX6_readWordEvent_41 ?_
    refine zr_iload_n (pc := 44) h dX6_readWordEvent_44 rfl rfl ?_
    refine zr_bipush (pc := 45) (v := (6 : Int32)) h dX6_readWordEvent_45 (by decide) ?_
    refine zr_iload_n (pc := 47) h dX6_readWordEvent_47 rfl rfl ?_
    refine zr_bipush (pc := 48) (v := (6 : Int32)) h dX6_readWordEvent_48 (by decide) ?_
    refine zr_irem (pc := 50) h dX6_readWordEvent_50 (by decide) ?_
    refine zr_iload_n (pc := 51) h dX6_readWordEvent_51 rfl rfl ?_
    refine zr_bipush (pc := 52) (v := (6 : Int32)) h dX6_readWordEvent_52 (by decide) ?_
    refine zr_idiv (pc := 54) h dX6_readWordEvent_54 (by decide) ?_
    refine zr_iload_n (pc := 55) h dX6_readWordEvent_55 rfl rfl ?_
    obtain ⟨μ5, eμ5, hf⟩ := zBd_s hf
    refine zm_X6_73 (pc := 56) h gkc_32 ⟨by decide, by decide⟩ (cX5_add_ok gkc_32 eμ5) rfl (Nat.le_of_ble_eq_true rfl) dX6_readWordEvent_56 rfl ?_
    refine zr_iconst (pc := 59) (v := (1 : Int32)) h dX6_readWordEvent_59 (by decide) ?_
    exact zr_zret (pc := 60) h rfl dX6_readWordEvent_60 (zRp hf).1 (zRp hf).2
  · have hf := hf.1 b6
    refine zr_iconst (pc := 38) (v := (0 : Int32)) h dX6_readWordEvent_38 (by decide) ?_
    exact zr_zret (pc := 39) h rfl dX6_readWordEvent_39 (zRp hf).1 (zRp hf).2

set_option maxRecDepth 100000 in
set_option maxHeartbeats 4000000 in
theorem cX6_readWordEvent_ok {l : Launch} {g : gG} {a1 : Int32} {μ : gM} {r : Int32} {ν : gM} (hf : fX6_readWordEvent a1 μ = some (r, ν)) : gMet l g yX6_readWordEvent cX6_readWordEvent 4 (some .boolean) 4 89 [.ref (g.1 + 31), .int a1] μ (some (.int r)) ν := by
  refine gMet_of (gIni [.ref (g.1 + 31), .int a1] ++ List.replicate 2 none) (by decide) (gIni_ok _ _) (Nat.le_of_ble_eq_true rfl) (fun K h => ?_)
  show K 0 [some (.ref (g.1 + 31)), some (.int a1), none, none] [] μ
  unfold fX6_readWordEvent at hf
  refine zr_aload_n (pc := 0) h dX6_readWordEvent_0 rfl rfl ?_
  refine zf_X6_18 (pc := 1) h gkc_31 dX6_readWordEvent_1 ?_
  refine zr_aload_n (pc := 4) h dX6_readWordEvent_4 rfl rfl ?_
  refine zf_X6_22 (pc := 5) h gkc_31 dX6_readWordEvent_5 ?_
  obtain ⟨x1, μ2, ex1, hf⟩ := zBp_s hf
  refine zm_X6_84 (pc := 8) h gkc_1 ⟨by decide, by decide⟩ (cX7_knownMember_ok gkc_4 ex1) rfl (Nat.le_of_ble_eq_true rfl) dX6_readWordEvent_8 rfl ?_
  refine zr_istore_n (pc := 11) h dX6_readWordEvent_11 rfl (by decide) rfl ?_
  refine zr_iload_n (pc := 12) h dX6_readWordEvent_12 rfl rfl ?_
  refine zr_iconst (pc := 13) (v := (-1 : Int32)) h dX6_readWordEvent_13 (by decide) ?_
  have hf := zIf_s hf
  refine zr_icmp_ne (pc := 14) (tgt := 21) h dX6_readWordEvent_14 rfl (fun b7 => ?_) (fun b7 => ?_)
  · have hf := hf.2 b7
    refine zr_aload_n (pc := 21) h dX6_readWordEvent_21 rfl rfl ?_
    refine zf_X6_18 (pc := 22) h gkc_31 dX6_readWordEvent_22 ?_
    refine zr_iconst (pc := 25) (v := (1 : Int32)) h dX6_readWordEvent_25 (by decide) ?_
    refine zr_sipush (pc := 26) (v := (255 : Int32)) h dX6_readWordEvent_26 (by decide) ?_
    obtain ⟨x3, μ4, ex3, hf⟩ := zBp_s hf
    refine zm_X6_60 (pc := 29) h gkc_1 ⟨by decide, by decide⟩ (cX7_number_ok ex3) rfl (Nat.le_of_ble_eq_true rfl) dX6_readWordEvent_29 rfl ?_
    exact zr_weak h [true, true, true, false] (fX6_readWordEvent_n32_ok h hf)
  · have hf := hf.1 b7
    refine zr_iconst (pc := 17) (v := (-1 : Int32)) h dX6_readWordEvent_17 (by decide) ?_
    refine zr_goto (pc := 18) (tgt := 32) h dX6_readWordEvent_18 rfl ?_
    exact zr_weak h [true, true, true, false] (fX6_readWordEvent_n32_ok h hf)

set_option maxRecDepth 100000 in
set_option maxHeartbeats 4000000 in
theorem fX6_readGates_n24_ok {l : Launch} {g : gG} {k4 : Int32 → Int32 → gM → Option (Int32 × gM)} {r : Int32} {ν : gM} {K : gKt} (h : gR l g cX6_readGates RX6 5 (some .int) (gRm 3 65) (some (.int r)) ν K) (hk4 : ∀ (y1 : Int32) (y2 : Int32) (ν1 : gM), k4 y1 y2 ν1 = some (r, ν) → K 4 [some (.ref (g.1 + 31)), some (.int y1), some (.int y2), none, none] [] ν1) {y1 : Int32} {y2 : Int32} {μ : gM} (hf : fX6_readGates_n24 k4 y1 y2 μ = some (r, ν)) : K 24 [some (.ref (g.1 + 31)), some (.int y1), some (.int y2), none, none] [] μ := by
  unfold fX6_readGates_n24 at hf
  refine zr_aload_n (pc := 24) h dX6_readGates_24 rfl rfl ?_
  refine zf_X6_18 (pc := 25) h gkc_31 dX6_readGates_25 ?_
  refine zf_X6_50 (pc := 28) h gkc_1 dX6_readGates_28 ?_
  refine zr_topi h (fun x1 ex1 => ?_)
  have hf := zLt_s ex1 hf
  refine zr_istore_n (pc := 31) h dX6_readGates_31 rfl (by decide) rfl ?_
  refine zr_aload_n (pc := 32) h dX6_readGates_32 rfl rfl ?_
  refine zf_X6_18 (pc := 33) h gkc_31 dX6_readGates_33 ?_
  refine zr_aload_n (pc := 36) h dX6_readGates_36 rfl rfl ?_
  refine zf_X6_22 (pc := 37) h gkc_31 dX6_readGates_37 ?_
  refine zr_iconst (pc := 40) (v := (0 : Int32)) h dX6_readGates_40 (by decide) ?_
  obtain ⟨x2, μ3, ex2, hf⟩ := zBp_s hf
  refine zm_X6_80 (pc := 41) h gkc_1 ⟨by decide, by decide⟩ (cX7_known_ok gkc_4 ex2) rfl (Nat.le_of_ble_eq_true rfl) dX6_readGates_41 rfl ?_
  refine zr_istore (pc := 44) h dX6_readGates_44 (by decide) rfl ?_
  refine zr_iload (pc := 46) h dX6_readGates_46 rfl ?_
  refine zr_iconst (pc := 48) (v := (-1 : Int32)) h dX6_readGates_48 (by decide) ?_
  have hf := zIf_s hf
  refine zr_icmp_ne (pc := 49) (tgt := 54) h dX6_readGates_49 rfl (fun b9 => ?_) (fun b9 => ?_)
  · have hf := hf.2 b9
    refine zr_iload_n (pc := 54) h dX6_readGates_54 rfl rfl ?_
    refine zr_iload (pc := 55) h dX6_readGates_55 rfl ?_
    refine zr_ishr (pc := 57) h dX6_readGates_57 ?_
    refine zr_iconst (pc := 58) (v := (1 : Int32)) h dX6_readGates_58 (by decide) ?_
    refine zr_iand (pc := 59) h dX6_readGates_59 ?_
    refine zr_iconst (pc := 60) (v := (1 : Int32)) h dX6_readGates_60 (by decide) ?_
    have hf := zIf_s hf
    refine zr_icmp_ne (pc := 61) (tgt := 76) h dX6_readGates_61 rfl (fun b8 => ?_) (fun b8 => ?_)
    · have hf := hf.2 b8
      refine zr_iload_n (pc := 76) h dX6_readGates_76 rfl rfl ?_
      refine zr_iconst (pc := 77) (v := (1 : Int32)) h dX6_readGates_77 (by decide) ?_
      refine zr_iload (pc := 78) h dX6_readGates_78 rfl ?_
      refine zr_ishl (pc := 80) h dX6_readGates_80 ?_
      refine zr_ior (pc := 81) h dX6_readGates_81 ?_
      refine zr_topi h (fun x4 ex4 => ?_)
      have hf := zLt_s ex4 hf
      refine zr_istore_n (pc := 82) h dX6_readGates_82 rfl (by decide) rfl ?_
      refine zr_iincx (pc := 83) h dX6_readGates_83 rfl (by decide) rfl (c := (1 : Int32)) (by decide) (fun x5 ex5 => ?_)
      have hf := zLt_s ex5 hf
      refine zr_goto (pc := 86) (tgt := 4) h dX6_readGates_86 rfl ?_
      exact zr_weak h [true, true, true, false, false] (hk4 _ _ _ hf)
    · have hf := hf.1 b8
      refine zr_aload_n (pc := 64) h dX6_readGates_64 rfl rfl ?_
      refine zf_X6_18 (pc := 65) h gkc_31 dX6_readGates_65 ?_
      refine zr_iconst (pc := 68) (v := (5 : Int32)) h dX6_readGates_68 (by decide) ?_
      refine zr_iload_n (pc := 69) h dX6_readGates_69 rfl rfl ?_
      obtain ⟨x6, μ7, ex6, hf⟩ := zBp_s hf
      refine zm_X6_56 (pc := 70) h gkc_1 ⟨by decide, by decide⟩ (cX7_refuse_ok ex6) rfl (Nat.le_of_ble_eq_true rfl) dX6_readGates_70 rfl ?_
      refine zr_pop (pc := 73) h dX6_readGates_73 rfl ?_
      refine zr_iconst (pc := 74) (v := (-1 : Int32)) h dX6_readGates_74 (by decide) ?_
      exact zr_iret (pc := 75) h dX6_readGates_75 (zRp hf).1 (zRp hf).2
  · have hf := hf.1 b9
    refine zr_iconst (pc := 52) (v := (-1 : Int32)) h dX6_readGates_52 (by decide) ?_
    exact zr_iret (pc := 53) h dX6_readGates_53 (zRp hf).1 (zRp hf).2

set_option maxRecDepth 100000 in
set_option maxHeartbeats 4000000 in
theorem fX6_readGates_l4_ok {l : Launch} {g : gG} {r : Int32} {ν : gM} {K : gKt} (h : gR l g cX6_readGates RX6 5 (some .int) (gRm 3 65) (some (.int r)) ν K) : ∀ (n : Nat) (y1 : Int32) (y2 : Int32) (μ : gM), fX6_readGates_l4 n y1 y2 μ = some (r, ν) → K 4 [some (.ref (g.1 + 31)), some (.int y1), some (.int y2), none, none] [] μ := by
  intro n
  induction n with
  | zero =>
    intro y1 y2 μ hf
    cases (show (none : Option (Int32 × gM)) = some _ from hf)
  | succ n ih =>
    intro y1 y2 μ hf
    unfold fX6_readGates_l4 at hf
    refine zr_iload_n (pc := 4) h dX6_readGates_4 rfl rfl ?_
    refine zr_bipush (pc := 5) (v := (6 : Int32)) h dX6_readGates_5 (by decide) ?_
    have hf := zIf_s hf
    refine zr_icmp_gt (pc := 7) (tgt := 89) h dX6_readGates_7 rfl (fun b13 => ?_) (fun b13 => ?_)
    · have hf := hf.1 b13
      refine zr_iload_n (pc := 89) h dX6_readGates_89 rfl rfl ?_
      exact zr_iret (pc := 90) h dX6_readGates_90 (zRp hf).1 (zRp hf).2
    · have hf := hf.2 b13
      refine zr_iload_n (pc := 10) h dX6_readGates_10 rfl rfl ?_
      have hf := zIf_s hf
      refine zr_if_eq (pc := 11) (tgt := 24) h dX6_readGates_11 rfl (fun b12 => ?_) (fun b12 => ?_)
      · have hf := hf.1 b12
        exact zr_weak h [true, true, true, false, false] (fX6_readGates_n24_ok h ih hf)
      · have hf := hf.2 b12
        refine zr_aload_n (pc := 14) h dX6_readGates_14 rfl rfl ?_
        refine zf_X6_18 (pc := 15) h gkc_31 dX6_readGates_15 ?_
        obtain ⟨x10, ex10, hf⟩ := zBd_s hf
        refine zm_X6_88 (pc := 18) h gkc_1 ⟨by decide, by decide⟩ (cX7_isStop_ok ex10) rfl (Nat.le_of_ble_eq_true rfl) dX6_readGates_18 rfl ?_
        have hf := zIf_s hf
        refine zr_if_ne (pc := 21) (tgt := 89) h dX6_readGates_21 rfl (fun b11 => ?_) (fun b11 => ?_)
        · have hf := hf.2 b11
          refine zr_iload_n (pc := 89) h dX6_readGates_89 rfl rfl ?_
          exact zr_iret (pc := 90) h dX6_readGates_90 (zRp hf).1 (zRp hf).2
        · have hf := hf.1 b11
          exact zr_weak h [true, true, true, false, false] (fX6_readGates_n24_ok h ih hf)

set_option maxRecDepth 100000 in
set_option maxHeartbeats 4000000 in
theorem cX6_readGates_ok {l : Launch} {g : gG} {μ : gM} {r : Int32} {ν : gM} (hf : fX6_readGates μ = some (r, ν)) : gMet l g yX6_readGates cX6_readGates 5 (some .int) 3 65 [.ref (g.1 + 31)] μ (some (.int r)) ν := by
  refine gMet_of (gIni [.ref (g.1 + 31)] ++ List.replicate 4 none) (by decide) (gIni_ok _ _) (Nat.le_of_ble_eq_true rfl) (fun K h => ?_)
  show K 0 [some (.ref (g.1 + 31)), none, none, none, none] [] μ
  unfold fX6_readGates at hf
  refine zr_iconst (pc := 0) (v := (0 : Int32)) h dX6_readGates_0 (by decide) ?_
  refine zr_istore_n (pc := 1) h dX6_readGates_1 rfl (by decide) rfl ?_
  refine zr_iconst (pc := 2) (v := (0 : Int32)) h dX6_readGates_2 (by decide) ?_
  refine zr_istore_n (pc := 3) h dX6_readGates_3 rfl (by decide) rfl ?_
  exact zr_weak h [true, true, true, false, false] (fX6_readGates_l4_ok h 100000 _ _ _ hf)

set_option maxRecDepth 100000 in
set_option maxHeartbeats 4000000 in
theorem fX6_readEvent_n129_ok {l : Launch} {g : gG} {r : Int32} {ν : gM} {K : gKt} (h : gR l g cX6_readEvent RX6 5 (some .boolean) (gRm 5 112) (some (.int r)) ν K) {y1 : Int32} {y3 : Int32} {z0 : Int32} {μ : gM} (hf : fX6_readEvent_n129 y1 y3 z0 μ = some (r, ν)) : K 129 [some (.ref (g.1 + 31)), some (.int y1), none, some (.int y3), none] [.int z0] μ := by
  unfold fX6_readEvent_n129 at hf
  refine zr_istore (pc := 129) h dX6_readEvent_129 (by decide) rfl ?_
  refine zr_aload_n (pc := 131) h dX6_readEvent_131 rfl rfl ?_
  refine zf_X6_12 (pc := 132) h gkc_31 dX6_readEvent_132 ?_
  refine zr_iload_n (pc := 135) h dX6_readEvent_135 rfl rfl ?_
  refine zr_iload_n (pc := 136) h dX6_readEvent_136 rfl rfl ?_
  refine zr_iload (pc := 137) h dX6_readEvent_137 rfl ?_
  refine zr_iconst (pc := 139) (v := (-1 : Int32)) h dX6_readEvent_139 (by decide) ?_
  refine zr_iconst (pc := 140) (v := (-1 : Int32)) h dX6_readEvent_140 (by decide) ?_
  obtain ⟨μ5, eμ5, hf⟩ := zBd_s hf
  refine zm_X6_73 (pc := 141) h gkc_32 ⟨by decide, by decide⟩ (cX5_add_ok gkc_32 eμ5) rfl (Nat.le_of_ble_eq_true rfl) dX6_readEvent_141 rfl ?_
  refine zr_iload (pc := 144) h dX6_readEvent_144 rfl ?_
  refine zr_iconst (pc := 146) (v := (-1 : Int32)) h dX6_readEvent_146 (by decide) ?_
  have hf := zIf_s hf
  refine zr_icmp_eq (pc := 147) (tgt := 154) h dX6_readEvent_147 rfl (fun b6 => ?_) (fun b6 => ?_)
  · have hf := hf.1 b6
    refine zr_iconst (pc := 154) (v := (0 : Int32)) h dX6_readEvent_154 (by decide) ?_
    exact zr_zret (pc := 155) h rfl dX6_readEvent_155 (zRp hf).1 (zRp hf).2
  · have hf := hf.2 b6
    refine zr_iconst (pc := 150) (v := (1 : Int32)) h dX6_readEvent_150 (by decide) ?_
    refine zr_goto (pc := 151) (tgt := 155) h dX6_readEvent_151 rfl ?_
    exact zr_zret (pc := 155) h rfl dX6_readEvent_155 (zRp hf).1 (zRp hf).2

set_option maxRecDepth 100000 in
set_option maxHeartbeats 4000000 in
theorem fX6_readEvent_n126_ok {l : Launch} {g : gG} {r : Int32} {ν : gM} {K : gKt} (h : gR l g cX6_readEvent RX6 5 (some .boolean) (gRm 5 112) (some (.int r)) ν K) {y1 : Int32} {y3 : Int32} {z0 : Int32} {μ : gM} (hf : fX6_readEvent_n126 y1 y3 z0 μ = some (r, ν)) : K 126 [some (.ref (g.1 + 31)), some (.int y1), none, some (.int y3), none] [.int z0, .ref (g.1 + 4), .ref (g.1 + 1)] μ := by
  unfold fX6_readEvent_n126 at hf
  obtain ⟨x3, μ4, ex3, hf⟩ := zBp_s hf
  refine zm_X6_80 (pc := 126) h gkc_1 ⟨by decide, by decide⟩ (cX7_known_ok gkc_4 ex3) rfl (Nat.le_of_ble_eq_true rfl) dX6_readEvent_126 rfl ?_
  exact zr_weak h [true, true, false, true, false] (fX6_readEvent_n129_ok h hf)

set_option maxRecDepth 100000 in
set_option maxHeartbeats 4000000 in
theorem fX6_readEvent_n64_ok {l : Launch} {g : gG} {r : Int32} {ν : gM} {K : gKt} (h : gR l g cX6_readEvent RX6 5 (some .boolean) (gRm 5 112) (some (.int r)) ν K) {y1 : Int32} {z0 : Int32} {μ : gM} (hf : fX6_readEvent_n64 y1 z0 μ = some (r, ν)) : K 64 [some (.ref (g.1 + 31)), some (.int y1), none, none, none] [.int z0] μ := by
  unfold fX6_readEvent_n64 at hf
  refine zr_istore_n (pc := 64) h dX6_readEvent_64 rfl (by decide) rfl ?_
  refine zr_iload_n (pc := 65) h dX6_readEvent_65 rfl rfl ?_
  refine zr_bipush (pc := 66) (v := (6 : Int32)) h dX6_readEvent_66 (by decide) ?_
  have hf := zIf_s hf
  refine zr_icmp_ne (pc := 68) (tgt := 77) h dX6_readEvent_68 rfl (fun b16 => ?_) (fun b16 => ?_)
  · have hf := hf.2 b16
    refine zr_iload_n (pc := 77) h dX6_readEvent_77 rfl rfl ?_
    refine zr_iconst (pc := 78) (v := (5 : Int32)) h dX6_readEvent_78 (by decide) ?_
    have hf := zIf_s hf
    refine zr_icmp_ne (pc := 79) (tgt := 96) h dX6_readEvent_79 rfl (fun b12 => ?_) (fun b12 => ?_)
    · have hf := hf.2 b12
      refine zr_iload_n (pc := 96) h dX6_readEvent_96 rfl rfl ?_
      refine zr_iconst (pc := 97) (v := (4 : Int32)) h dX6_readEvent_97 (by decide) ?_
      have hf := zIf_s hf
      refine zr_icmp_ne (pc := 98) (tgt := 108) h dX6_readEvent_98 rfl (fun b10 => ?_) (fun b10 => ?_)
      · have hf := hf.2 b10
        refine zr_aload_n (pc := 108) h dX6_readEvent_108 rfl rfl ?_
        refine zf_X6_18 (pc := 109) h gkc_31 dX6_readEvent_109 ?_
        refine zr_aload_n (pc := 112) h dX6_readEvent_112 rfl rfl ?_
        refine zf_X6_22 (pc := 113) h gkc_31 dX6_readEvent_113 ?_
        refine zr_iload_n (pc := 116) h dX6_readEvent_116 rfl rfl ?_
        refine zr_iconst (pc := 117) (v := (1 : Int32)) h dX6_readEvent_117 (by decide) ?_
        have hf := zIf_s hf
        refine zr_icmp_gt (pc := 118) (tgt := 125) h dX6_readEvent_118 rfl (fun b7 => ?_) (fun b7 => ?_)
        · have hf := hf.1 b7
          refine zr_iconst (pc := 125) (v := (1 : Int32)) h dX6_readEvent_125 (by decide) ?_
          exact zr_weak h [true, true, false, true, false] (fX6_readEvent_n126_ok h hf)
        · have hf := hf.2 b7
          refine zr_iconst (pc := 121) (v := (0 : Int32)) h dX6_readEvent_121 (by decide) ?_
          refine zr_goto (pc := 122) (tgt := 126) h dX6_readEvent_122 rfl ?_
          exact zr_weak h [true, true, false, true, false] (fX6_readEvent_n126_ok h hf)
      · have hf := hf.1 b10
        refine zr_aload_n (pc := 101) h dX6_readEvent_101 rfl rfl ?_
        obtain ⟨x8, μ9, ex8, hf⟩ := zBp_s hf
        refine zm_X6_77 (pc := 102) h gkc_31 ⟨by decide, by decide⟩ (cX6_readGates_ok ex8) rfl (Nat.le_of_ble_eq_true rfl) dX6_readEvent_102 rfl ?_
        refine zr_goto (pc := 105) (tgt := 129) h dX6_readEvent_105 rfl ?_
        exact zr_weak h [true, true, false, true, false] (fX6_readEvent_n129_ok h hf)
    · have hf := hf.1 b12
      refine zr_aload_n (pc := 82) h dX6_readEvent_82 rfl rfl ?_
      refine zf_X6_12 (pc := 83) h gkc_31 dX6_readEvent_83 ?_
      refine zr_iload_n (pc := 86) h dX6_readEvent_86 rfl rfl ?_
      refine zr_iconst (pc := 87) (v := (5 : Int32)) h dX6_readEvent_87 (by decide) ?_
      refine zr_iconst (pc := 88) (v := (-1 : Int32)) h dX6_readEvent_88 (by decide) ?_
      refine zr_iconst (pc := 89) (v := (-1 : Int32)) h dX6_readEvent_89 (by decide) ?_
      refine zr_iconst (pc := 90) (v := (-1 : Int32)) h dX6_readEvent_90 (by decide) ?_
      obtain ⟨μ11, eμ11, hf⟩ := zBd_s hf
      refine zm_X6_73 (pc := 91) h gkc_32 ⟨by decide, by decide⟩ (cX5_add_ok gkc_32 eμ11) rfl (Nat.le_of_ble_eq_true rfl) dX6_readEvent_91 rfl ?_
      refine zr_iconst (pc := 94) (v := (1 : Int32)) h dX6_readEvent_94 (by decide) ?_
      exact zr_zret (pc := 95) h rfl dX6_readEvent_95 (zRp hf).1 (zRp hf).2
  · have hf := hf.1 b16
    refine zr_aload_n (pc := 71) h dX6_readEvent_71 rfl rfl ?_
    refine zr_iload_n (pc := 72) h dX6_readEvent_72 rfl rfl ?_
    obtain ⟨x13, μ14, ex13, hf⟩ := zBp_s hf
    refine zm_X6_70 (pc := 73) h gkc_31 ⟨by decide, by decide⟩ (cX6_readWordEvent_ok ex13) rfl (Nat.le_of_ble_eq_true rfl) dX6_readEvent_73 rfl ?_
    obtain ⟨q15, hf⟩ := zCk_s hf
    exact zr_zret (pc := 76) h (zBoo q15) dX6_readEvent_76 (zRp hf).1 (zRp hf).2

set_option maxRecDepth 100000 in
set_option maxHeartbeats 4000000 in
theorem fX6_readEvent_n42_ok {l : Launch} {g : gG} {r : Int32} {ν : gM} {K : gKt} (h : gR l g cX6_readEvent RX6 5 (some .boolean) (gRm 5 112) (some (.int r)) ν K) {y1 : Int32} {y2 : Int32} {μ : gM} (hf : fX6_readEvent_n42 y1 y2 μ = some (r, ν)) : K 42 [some (.ref (g.1 + 31)), some (.int y1), some (.int y2), none, none] [] μ := by
  unfold fX6_readEvent_n42 at hf
  refine zr_aload_n (pc := 42) h dX6_readEvent_42 rfl rfl ?_
  refine zf_X6_18 (pc := 43) h gkc_31 dX6_readEvent_43 ?_
  obtain ⟨μ2, eμ2, hf⟩ := zBd_s hf
  refine zm_X6_67 (pc := 46) h gkc_1 ⟨by decide, by decide⟩ (cX7_advance_ok eμ2) rfl (Nat.le_of_ble_eq_true rfl) dX6_readEvent_46 rfl ?_
  refine zr_iload_n (pc := 49) h dX6_readEvent_49 rfl rfl ?_
  refine zr_bipush (pc := 50) (v := (9 : Int32)) h dX6_readEvent_50 (by decide) ?_
  have hf := zIf_s hf
  refine zr_icmp_ne (pc := 52) (tgt := 60) h dX6_readEvent_52 rfl (fun b17 => ?_) (fun b17 => ?_)
  · have hf := hf.2 b17
    refine zr_iload_n (pc := 60) h dX6_readEvent_60 rfl rfl ?_
    refine zr_bipush (pc := 61) (v := (15 : Int32)) h dX6_readEvent_61 (by decide) ?_
    refine zr_isub (pc := 63) h dX6_readEvent_63 ?_
    exact zr_weak h [true, true, false, false, false] (fX6_readEvent_n64_ok h hf)
  · have hf := hf.1 b17
    refine zr_bipush (pc := 55) (v := (6 : Int32)) h dX6_readEvent_55 (by decide) ?_
    refine zr_goto (pc := 57) (tgt := 64) h dX6_readEvent_57 rfl ?_
    exact zr_weak h [true, true, false, false, false] (fX6_readEvent_n64_ok h hf)

set_option maxRecDepth 100000 in
set_option maxHeartbeats 4000000 in
theorem fX6_readEvent_n26_ok {l : Launch} {g : gG} {r : Int32} {ν : gM} {K : gKt} (h : gR l g cX6_readEvent RX6 5 (some .boolean) (gRm 5 112) (some (.int r)) ν K) {μ : gM} (hf : fX6_readEvent_n26 μ = some (r, ν)) : K 26 [some (.ref (g.1 + 31)), none, none, none, none] [] μ := by
  unfold fX6_readEvent_n26 at hf
  refine zr_aload_n (pc := 26) h dX6_readEvent_26 rfl rfl ?_
  refine zf_X6_18 (pc := 27) h gkc_31 dX6_readEvent_27 ?_
  refine zr_iconst (pc := 30) (v := (1 : Int32)) h dX6_readEvent_30 (by decide) ?_
  refine zr_aload_n (pc := 31) h dX6_readEvent_31 rfl rfl ?_
  refine zf_X6_18 (pc := 32) h gkc_31 dX6_readEvent_32 ?_
  refine zf_X6_50 (pc := 35) h gkc_1 dX6_readEvent_35 ?_
  obtain ⟨x18, μ19, ex18, hf⟩ := zBp_s hf
  refine zm_X6_56 (pc := 38) h gkc_1 ⟨by decide, by decide⟩ (cX7_refuse_ok ex18) rfl (Nat.le_of_ble_eq_true rfl) dX6_readEvent_38 rfl ?_
  obtain ⟨q20, hf⟩ := zCk_s hf
  exact zr_zret (pc := 41) h (zBoo q20) dX6_readEvent_41 (zRp hf).1 (zRp hf).2

set_option maxRecDepth 100000 in
set_option maxHeartbeats 4000000 in
theorem cX6_readEvent_ok {l : Launch} {g : gG} {a1 : Int32} {μ : gM} {r : Int32} {ν : gM} (hf : fX6_readEvent a1 μ = some (r, ν)) : gMet l g yX6_readEvent cX6_readEvent 5 (some .boolean) 5 112 [.ref (g.1 + 31), .int a1] μ (some (.int r)) ν := by
  refine gMet_of (gIni [.ref (g.1 + 31), .int a1] ++ List.replicate 3 none) (by decide) (gIni_ok _ _) (Nat.le_of_ble_eq_true rfl) (fun K h => ?_)
  show K 0 [some (.ref (g.1 + 31)), some (.int a1), none, none, none] [] μ
  unfold fX6_readEvent at hf
  refine zr_aload_n (pc := 0) h dX6_readEvent_0 rfl rfl ?_
  refine zf_X6_18 (pc := 1) h gkc_31 dX6_readEvent_1 ?_
  obtain ⟨x1, ex1, hf⟩ := zBd_s hf
  refine zm_X6_63 (pc := 4) h gkc_1 ⟨by decide, by decide⟩ (cX7_ownWord_ok ex1) rfl (Nat.le_of_ble_eq_true rfl) dX6_readEvent_4 rfl ?_
  refine zr_istore_n (pc := 7) h dX6_readEvent_7 rfl (by decide) rfl ?_
  refine zr_iload_n (pc := 8) h dX6_readEvent_8 rfl rfl ?_
  refine zr_bipush (pc := 9) (v := (9 : Int32)) h dX6_readEvent_9 (by decide) ?_
  have hf := zIf_s hf
  refine zr_icmp_eq (pc := 11) (tgt := 42) h dX6_readEvent_11 rfl (fun b23 => ?_) (fun b23 => ?_)
  · have hf := hf.1 b23
    exact zr_weak h [true, true, true, false, false] (fX6_readEvent_n42_ok h hf)
  · have hf := hf.2 b23
    refine zr_iload_n (pc := 14) h dX6_readEvent_14 rfl rfl ?_
    refine zr_bipush (pc := 15) (v := (15 : Int32)) h dX6_readEvent_15 (by decide) ?_
    have hf := zIf_s hf
    refine zr_icmp_lt (pc := 17) (tgt := 26) h dX6_readEvent_17 rfl (fun b22 => ?_) (fun b22 => ?_)
    · have hf := hf.1 b22
      exact zr_weak h [true, false, false, false, false] (fX6_readEvent_n26_ok h hf)
    · have hf := hf.2 b22
      refine zr_iload_n (pc := 20) h dX6_readEvent_20 rfl rfl ?_
      refine zr_bipush (pc := 21) (v := (20 : Int32)) h dX6_readEvent_21 (by decide) ?_
      have hf := zIf_s hf
      refine zr_icmp_le (pc := 23) (tgt := 42) h dX6_readEvent_23 rfl (fun b21 => ?_) (fun b21 => ?_)
      · have hf := hf.1 b21
        exact zr_weak h [true, true, true, false, false] (fX6_readEvent_n42_ok h hf)
      · have hf := hf.2 b21
        exact zr_weak h [true, false, false, false, false] (fX6_readEvent_n26_ok h hf)

set_option maxRecDepth 100000 in
set_option maxHeartbeats 4000000 in
theorem fX6_read_l19_ok {l : Launch} {g : gG} {r : Int32} {ν : gM} {K : gKt} (h : gR l g cX6_read RX6 3 (some .boolean) (gRm 6 136) (some (.int r)) ν K) : ∀ (n : Nat) (y1 : Int32) (y2 : Int32) (μ : gM), fX6_read_l19 n y1 y2 μ = some (r, ν) → K 19 [some (.ref (g.1 + 31)), some (.int y1), some (.int y2)] [] μ := by
  intro n
  induction n with
  | zero =>
    intro y1 y2 μ hf
    cases (show (none : Option (Int32 × gM)) = some _ from hf)
  | succ n ih =>
    intro y1 y2 μ hf
    unfold fX6_read_l19 at hf
    refine zr_iload_n (pc := 19) h dX6_read_19 rfl rfl ?_
    refine zr_bipush (pc := 20) (v := (20 : Int32)) h dX6_read_20 (by decide) ?_
    have hf := zIf_s hf
    refine zr_icmp_gt (pc := 22) (tgt := 73) h dX6_read_22 rfl (fun b15 => ?_) (fun b15 => ?_)
    · have hf := hf.1 b15
      refine zr_iconst (pc := 73) (v := (1 : Int32)) h dX6_read_73 (by decide) ?_
      exact zr_zret (pc := 74) h rfl dX6_read_74 (zRp hf).1 (zRp hf).2
    · have hf := hf.2 b15
      refine zr_aload_n (pc := 25) h dX6_read_25 rfl rfl ?_
      refine zf_X6_18 (pc := 26) h gkc_31 dX6_read_26 ?_
      obtain ⟨x3, ex3, hf⟩ := zBd_s hf
      refine zm_X6_35 (pc := 29) h gkc_1 ⟨by decide, by decide⟩ (cX7_isEnded_ok ex3) rfl (Nat.le_of_ble_eq_true rfl) dX6_read_29 rfl ?_
      have hf := zIf_s hf
      refine zr_if_ne (pc := 32) (tgt := 73) h dX6_read_32 rfl (fun b14 => ?_) (fun b14 => ?_)
      · have hf := hf.2 b14
        refine zr_iconst (pc := 73) (v := (1 : Int32)) h dX6_read_73 (by decide) ?_
        exact zr_zret (pc := 74) h rfl dX6_read_74 (zRp hf).1 (zRp hf).2
      · have hf := hf.1 b14
        refine zr_aload_n (pc := 35) h dX6_read_35 rfl rfl ?_
        refine zr_iload_n (pc := 36) h dX6_read_36 rfl rfl ?_
        refine zr_iload_n (pc := 37) h dX6_read_37 rfl rfl ?_
        obtain ⟨x4, μ5, ex4, hf⟩ := zBp_s hf
        refine zm_X6_39 (pc := 38) h gkc_31 ⟨by decide, by decide⟩ (cX6_readAt_ok ex4) rfl (Nat.le_of_ble_eq_true rfl) dX6_read_38 rfl ?_
        refine zr_istore_n (pc := 41) h dX6_read_41 rfl (by decide) rfl ?_
        refine zr_iload_n (pc := 42) h dX6_read_42 rfl rfl ?_
        refine zr_iconst (pc := 43) (v := (-1 : Int32)) h dX6_read_43 (by decide) ?_
        have hf := zIf_s hf
        refine zr_icmp_eq (pc := 44) (tgt := 65) h dX6_read_44 rfl (fun b13 => ?_) (fun b13 => ?_)
        · have hf := hf.1 b13
          refine zr_iconst (pc := 65) (v := (0 : Int32)) h dX6_read_65 (by decide) ?_
          exact zr_zret (pc := 66) h rfl dX6_read_66 (zRp hf).1 (zRp hf).2
        · have hf := hf.2 b13
          refine zr_aload_n (pc := 47) h dX6_read_47 rfl rfl ?_
          refine zr_iload_n (pc := 48) h dX6_read_48 rfl rfl ?_
          obtain ⟨x6, μ7, ex6, hf⟩ := zBp_s hf
          refine zm_X6_43 (pc := 49) h gkc_31 ⟨by decide, by decide⟩ (cX6_readEvent_ok ex6) rfl (Nat.le_of_ble_eq_true rfl) dX6_read_49 rfl ?_
          have hf := zIf_s hf
          refine zr_if_eq (pc := 52) (tgt := 65) h dX6_read_52 rfl (fun b12 => ?_) (fun b12 => ?_)
          · have hf := hf.1 b12
            refine zr_iconst (pc := 65) (v := (0 : Int32)) h dX6_read_65 (by decide) ?_
            exact zr_zret (pc := 66) h rfl dX6_read_66 (zRp hf).1 (zRp hf).2
          · have hf := hf.2 b12
            refine zr_aload_n (pc := 55) h dX6_read_55 rfl rfl ?_
            refine zf_X6_18 (pc := 56) h gkc_31 dX6_read_56 ?_
            obtain ⟨x8, μ9, ex8, hf⟩ := zBp_s hf
            refine zm_X6_47 (pc := 59) h gkc_1 ⟨by decide, by decide⟩ (cX7_passStop_ok ex8) rfl (Nat.le_of_ble_eq_true rfl) dX6_read_59 rfl ?_
            have hf := zIf_s hf
            refine zr_if_ne (pc := 62) (tgt := 67) h dX6_read_62 rfl (fun b11 => ?_) (fun b11 => ?_)
            · have hf := hf.2 b11
              refine zr_iincx (pc := 67) h dX6_read_67 rfl (by decide) rfl (c := (1 : Int32)) (by decide) (fun x10 ex10 => ?_)
              have hf := zLt_s ex10 hf
              refine zr_goto (pc := 70) (tgt := 19) h dX6_read_70 rfl ?_
              exact zr_weak h [true, true, true] (ih _ _ _ hf)
            · have hf := hf.1 b11
              refine zr_iconst (pc := 65) (v := (0 : Int32)) h dX6_read_65 (by decide) ?_
              exact zr_zret (pc := 66) h rfl dX6_read_66 (zRp hf).1 (zRp hf).2

set_option maxRecDepth 100000 in
set_option maxHeartbeats 4000000 in
theorem cX6_read_ok {l : Launch} {g : gG} {μ : gM} {r : Int32} {ν : gM} (hf : fX6_read μ = some (r, ν)) : gMet l g yX6_read cX6_read 3 (some .boolean) 6 136 [.ref (g.1 + 31)] μ (some (.int r)) ν := by
  refine gMet_of (gIni [.ref (g.1 + 31)] ++ List.replicate 2 none) (by decide) (gIni_ok _ _) (Nat.le_of_ble_eq_true rfl) (fun K h => ?_)
  show K 0 [some (.ref (g.1 + 31)), none, none] [] μ
  unfold fX6_read at hf
  refine zr_aload_n (pc := 0) h dX6_read_0 rfl rfl ?_
  refine zf_X6_12 (pc := 1) h gkc_31 dX6_read_1 ?_
  refine zr_iconst (pc := 4) (v := (0 : Int32)) h dX6_read_4 (by decide) ?_
  refine zp_X6_26 (pc := 5) h gkc_32 dX6_read_5 ?_
  refine zr_mu h (fun μ1 eμ1 => ?_)
  have hf := zLt_s eμ1 hf
  refine zr_aload_n (pc := 8) h dX6_read_8 rfl rfl ?_
  refine zf_X6_18 (pc := 9) h gkc_31 dX6_read_9 ?_
  obtain ⟨μ2, eμ2, hf⟩ := zBd_s hf
  refine zm_X6_30 (pc := 12) h gkc_1 ⟨by decide, by decide⟩ (cX7_open_ok eμ2) rfl (Nat.le_of_ble_eq_true rfl) dX6_read_12 rfl ?_
  refine zr_iconst (pc := 15) (v := (0 : Int32)) h dX6_read_15 (by decide) ?_
  refine zr_istore_n (pc := 16) h dX6_read_16 rfl (by decide) rfl ?_
  refine zr_iconst (pc := 17) (v := (0 : Int32)) h dX6_read_17 (by decide) ?_
  refine zr_istore_n (pc := 18) h dX6_read_18 rfl (by decide) rfl ?_
  exact zr_weak h [true, true, true] (fX6_read_l19_ok h 100000 _ _ _ hf)

