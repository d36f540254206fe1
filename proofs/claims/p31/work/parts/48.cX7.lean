set_option maxRecDepth 100000 in
set_option maxHeartbeats 4000000 in
theorem fX7_readWord_n106_ok {l : Launch} {g : gG} {ν : gM} {K : gKt} (h : gR l g cX7_readWord RX7 1 none (gRm 0 0) none ν K) {μ : gM} (hf : fX7_readWord_n106 μ = some ν) : K 106 [some (.ref (g.1 + 1))] [] μ := by
  unfold fX7_readWord_n106 at hf
  refine zr_aload_n (pc := 106) h dX7_readWord_106 rfl rfl ?_
  refine zr_aload_n (pc := 107) h dX7_readWord_107 rfl rfl ?_
  refine zf_X7_36 (pc := 108) h gkc_1 dX7_readWord_108 ?_
  refine zr_aload_n (pc := 111) h dX7_readWord_111 rfl rfl ?_
  refine zf_X7_48 (pc := 112) h gkc_1 dX7_readWord_112 ?_
  refine zr_isub (pc := 115) h dX7_readWord_115 ?_
  refine zr_bipush (pc := 116) (v := (6 : Int32)) h dX7_readWord_116 (by decide) ?_
  have hf := zIf_s hf
  refine zr_icmp_gt (pc := 118) (tgt := 125) h dX7_readWord_118 rfl (fun b4 => ?_) (fun b4 => ?_)
  · have hf := hf.1 b4
    refine zr_iconst (pc := 125) (v := (4 : Int32)) h dX7_readWord_125 (by decide) ?_
    refine zp_X7_39 (pc := 126) h gkc_1 dX7_readWord_126 ?_
    refine zr_mu h (fun μ2 eμ2 => ?_)
    have hf := zLt_s eμ2 hf
    exact zr_vret (pc := 129) h dX7_readWord_129 rfl (zRv hf)
  · have hf := hf.2 b4
    refine zr_iconst (pc := 121) (v := (1 : Int32)) h dX7_readWord_121 (by decide) ?_
    refine zr_goto (pc := 122) (tgt := 126) h dX7_readWord_122 rfl ?_
    refine zp_X7_39 (pc := 126) h gkc_1 dX7_readWord_126 ?_
    refine zr_mu h (fun μ3 eμ3 => ?_)
    have hf := zLt_s eμ3 hf
    exact zr_vret (pc := 129) h dX7_readWord_129 rfl (zRv hf)

set_option maxRecDepth 100000 in
set_option maxHeartbeats 4000000 in
theorem fX7_readWord_n93_ok {l : Launch} {g : gG} {k5 : gM → Option gM} {ν : gM} {K : gKt} (h : gR l g cX7_readWord RX7 1 none (gRm 0 0) none ν K) (hk5 : ∀ (ν1 : gM), k5 ν1 = some ν → K 5 [some (.ref (g.1 + 1))] [] ν1) {μ : gM} (hf : fX7_readWord_n93 k5 μ = some ν) : K 93 [some (.ref (g.1 + 1))] [] μ := by
  unfold fX7_readWord_n93 at hf
  refine zr_aload_n (pc := 93) h dX7_readWord_93 rfl rfl ?_
  refine zr_dup (pc := 94) h dX7_readWord_94 rfl ?_
  refine zf_X7_36 (pc := 95) h gkc_1 dX7_readWord_95 ?_
  refine zr_iconst (pc := 98) (v := (1 : Int32)) h dX7_readWord_98 (by decide) ?_
  refine zr_iadd (pc := 99) h dX7_readWord_99 ?_
  refine zp_X7_36 (pc := 100) h gkc_1 dX7_readWord_100 ?_
  refine zr_mu h (fun μ7 eμ7 => ?_)
  have hf := zLt_s eμ7 hf
  refine zr_goto (pc := 103) (tgt := 5) h dX7_readWord_103 rfl ?_
  exact zr_weak h [true] (hk5 _ hf)

set_option maxRecDepth 100000 in
set_option maxHeartbeats 4000000 in
theorem fX7_readWord_l5_ok {l : Launch} {g : gG} {ν : gM} {K : gKt} (h : gR l g cX7_readWord RX7 1 none (gRm 0 0) none ν K) : ∀ (n : Nat) (μ : gM), fX7_readWord_l5 n μ = some ν → K 5 [some (.ref (g.1 + 1))] [] μ := by
  intro n
  induction n with
  | zero =>
    intro μ hf
    cases (show (none : Option gM) = some _ from hf)
  | succ n ih =>
    intro μ hf
    unfold fX7_readWord_l5 at hf
    refine zr_aload_n (pc := 5) h dX7_readWord_5 rfl rfl ?_
    refine zf_X7_36 (pc := 6) h gkc_1 dX7_readWord_6 ?_
    refine zr_aload_n (pc := 9) h dX7_readWord_9 rfl rfl ?_
    refine zf_X7_34 (pc := 10) h gkc_1 dX7_readWord_10 ?_
    have hf := zIf_s hf
    refine zr_icmp_ge (pc := 13) (tgt := 106) h dX7_readWord_13 rfl (fun b13 => ?_) (fun b13 => ?_)
    · have hf := hf.1 b13
      exact zr_weak h [true] (fX7_readWord_n106_ok h hf)
    · have hf := hf.2 b13
      refine zr_aload_n (pc := 16) h dX7_readWord_16 rfl rfl ?_
      refine zf_X7_9 (pc := 17) h gkc_1 dX7_readWord_17 ?_
      refine zr_aload_n (pc := 20) h dX7_readWord_20 rfl rfl ?_
      refine zf_X7_36 (pc := 21) h gkc_1 dX7_readWord_21 ?_
      obtain ⟨q5, hf⟩ := zCk_s hf
      refine zr_iald (pc := 24) h gkc_2 q5 rfl dX7_readWord_24 ?_
      refine zr_bipush (pc := 25) (v := (97 : Int32)) h dX7_readWord_25 (by decide) ?_
      have hf := zIf_s hf
      refine zr_icmp_lt (pc := 27) (tgt := 106) h dX7_readWord_27 rfl (fun b12 => ?_) (fun b12 => ?_)
      · have hf := hf.1 b12
        exact zr_weak h [true] (fX7_readWord_n106_ok h hf)
      · have hf := hf.2 b12
        refine zr_aload_n (pc := 30) h dX7_readWord_30 rfl rfl ?_
        refine zf_X7_9 (pc := 31) h gkc_1 dX7_readWord_31 ?_
        refine zr_aload_n (pc := 34) h dX7_readWord_34 rfl rfl ?_
        refine zf_X7_36 (pc := 35) h gkc_1 dX7_readWord_35 ?_
        obtain ⟨q6, hf⟩ := zCk_s hf
        refine zr_iald (pc := 38) h gkc_2 q6 rfl dX7_readWord_38 ?_
        refine zr_bipush (pc := 39) (v := (122 : Int32)) h dX7_readWord_39 (by decide) ?_
        have hf := zIf_s hf
        refine zr_icmp_gt (pc := 41) (tgt := 106) h dX7_readWord_41 rfl (fun b11 => ?_) (fun b11 => ?_)
        · have hf := hf.1 b11
          exact zr_weak h [true] (fX7_readWord_n106_ok h hf)
        · have hf := hf.2 b11
          refine zr_aload_n (pc := 44) h dX7_readWord_44 rfl rfl ?_
          refine zf_X7_36 (pc := 45) h gkc_1 dX7_readWord_45 ?_
          refine zr_aload_n (pc := 48) h dX7_readWord_48 rfl rfl ?_
          refine zf_X7_48 (pc := 49) h gkc_1 dX7_readWord_49 ?_
          refine zr_isub (pc := 52) h dX7_readWord_52 ?_
          refine zr_bipush (pc := 53) (v := (6 : Int32)) h dX7_readWord_53 (by decide) ?_
          have hf := zIf_s hf
          refine zr_icmp_ge (pc := 55) (tgt := 93) h dX7_readWord_55 rfl (fun b10 => ?_) (fun b10 => ?_)
          · have hf := hf.1 b10
            exact zr_weak h [true] (fX7_readWord_n93_ok h ih hf)
          · have hf := hf.2 b10
            refine zr_aload_n (pc := 58) h dX7_readWord_58 rfl rfl ?_
            refine zr_dup (pc := 59) h dX7_readWord_59 rfl ?_
            refine zf_X7_57 (pc := 60) h gkc_1 dX7_readWord_60 ?_
            refine zr_aload_n (pc := 63) h dX7_readWord_63 rfl rfl ?_
            refine zf_X7_9 (pc := 64) h gkc_1 dX7_readWord_64 ?_
            refine zr_aload_n (pc := 67) h dX7_readWord_67 rfl rfl ?_
            refine zf_X7_36 (pc := 68) h gkc_1 dX7_readWord_68 ?_
            obtain ⟨q8, hf⟩ := zCk_s hf
            refine zr_iald (pc := 71) h gkc_2 q8 rfl dX7_readWord_71 ?_
            refine zr_bipush (pc := 72) (v := (97 : Int32)) h dX7_readWord_72 (by decide) ?_
            refine zr_isub (pc := 74) h dX7_readWord_74 ?_
            refine zr_iconst (pc := 75) (v := (1 : Int32)) h dX7_readWord_75 (by decide) ?_
            refine zr_iadd (pc := 76) h dX7_readWord_76 ?_
            refine zr_iconst (pc := 77) (v := (5 : Int32)) h dX7_readWord_77 (by decide) ?_
            refine zr_aload_n (pc := 78) h dX7_readWord_78 rfl rfl ?_
            refine zf_X7_36 (pc := 79) h gkc_1 dX7_readWord_79 ?_
            refine zr_aload_n (pc := 82) h dX7_readWord_82 rfl rfl ?_
            refine zf_X7_48 (pc := 83) h gkc_1 dX7_readWord_83 ?_
            refine zr_isub (pc := 86) h dX7_readWord_86 ?_
            refine zr_imul (pc := 87) h dX7_readWord_87 ?_
            refine zr_ishl (pc := 88) h dX7_readWord_88 ?_
            refine zr_ior (pc := 89) h dX7_readWord_89 ?_
            refine zp_X7_57 (pc := 90) h gkc_1 dX7_readWord_90 ?_
            refine zr_mu h (fun μ9 eμ9 => ?_)
            have hf := zLt_s eμ9 hf
            exact zr_weak h [true] (fX7_readWord_n93_ok h ih hf)

set_option maxRecDepth 100000 in
set_option maxHeartbeats 4000000 in
theorem cX7_readWord_ok {l : Launch} {g : gG} {μ : gM} {ν : gM} (hf : fX7_readWord μ = some ν) : gMet l g yX7_readWord cX7_readWord 1 none 0 0 [.ref (g.1 + 1)] μ none ν := by
  refine gMet_of (gIni [.ref (g.1 + 1)] ++ List.replicate 0 none) (by decide) (gIni_ok _ _) (Nat.le_of_ble_eq_true rfl) (fun K h => ?_)
  show K 0 [some (.ref (g.1 + 1))] [] μ
  unfold fX7_readWord at hf
  refine zr_aload_n (pc := 0) h dX7_readWord_0 rfl rfl ?_
  refine zr_iconst (pc := 1) (v := (0 : Int32)) h dX7_readWord_1 (by decide) ?_
  refine zp_X7_57 (pc := 2) h gkc_1 dX7_readWord_2 ?_
  refine zr_mu h (fun μ1 eμ1 => ?_)
  have hf := zLt_s eμ1 hf
  exact zr_weak h [true] (fX7_readWord_l5_ok h 100000 _ hf)

set_option maxRecDepth 100000 in
set_option maxHeartbeats 4000000 in
theorem fX7_readNumber_n94_ok {l : Launch} {g : gG} {ν : gM} {K : gKt} (h : gR l g cX7_readNumber RX7 1 none (gRm 0 0) none ν K) {μ : gM} (hf : fX7_readNumber_n94 μ = some ν) : K 94 [some (.ref (g.1 + 1))] [] μ := by
  unfold fX7_readNumber_n94 at hf
  refine zr_aload_n (pc := 94) h dX7_readNumber_94 rfl rfl ?_
  refine zr_aload_n (pc := 95) h dX7_readNumber_95 rfl rfl ?_
  refine zf_X7_36 (pc := 96) h gkc_1 dX7_readNumber_96 ?_
  refine zr_aload_n (pc := 99) h dX7_readNumber_99 rfl rfl ?_
  refine zf_X7_48 (pc := 100) h gkc_1 dX7_readNumber_100 ?_
  refine zr_isub (pc := 103) h dX7_readNumber_103 ?_
  refine zr_iconst (pc := 104) (v := (4 : Int32)) h dX7_readNumber_104 (by decide) ?_
  have hf := zIf_s hf
  refine zr_icmp_gt (pc := 105) (tgt := 112) h dX7_readNumber_105 rfl (fun b4 => ?_) (fun b4 => ?_)
  · have hf := hf.1 b4
    refine zr_iconst (pc := 112) (v := (4 : Int32)) h dX7_readNumber_112 (by decide) ?_
    refine zp_X7_39 (pc := 113) h gkc_1 dX7_readNumber_113 ?_
    refine zr_mu h (fun μ2 eμ2 => ?_)
    have hf := zLt_s eμ2 hf
    exact zr_vret (pc := 116) h dX7_readNumber_116 rfl (zRv hf)
  · have hf := hf.2 b4
    refine zr_iconst (pc := 108) (v := (2 : Int32)) h dX7_readNumber_108 (by decide) ?_
    refine zr_goto (pc := 109) (tgt := 113) h dX7_readNumber_109 rfl ?_
    refine zp_X7_39 (pc := 113) h gkc_1 dX7_readNumber_113 ?_
    refine zr_mu h (fun μ3 eμ3 => ?_)
    have hf := zLt_s eμ3 hf
    exact zr_vret (pc := 116) h dX7_readNumber_116 rfl (zRv hf)

set_option maxRecDepth 100000 in
set_option maxHeartbeats 4000000 in
theorem fX7_readNumber_n81_ok {l : Launch} {g : gG} {k5 : gM → Option gM} {ν : gM} {K : gKt} (h : gR l g cX7_readNumber RX7 1 none (gRm 0 0) none ν K) (hk5 : ∀ (ν1 : gM), k5 ν1 = some ν → K 5 [some (.ref (g.1 + 1))] [] ν1) {μ : gM} (hf : fX7_readNumber_n81 k5 μ = some ν) : K 81 [some (.ref (g.1 + 1))] [] μ := by
  unfold fX7_readNumber_n81 at hf
  refine zr_aload_n (pc := 81) h dX7_readNumber_81 rfl rfl ?_
  refine zr_dup (pc := 82) h dX7_readNumber_82 rfl ?_
  refine zf_X7_36 (pc := 83) h gkc_1 dX7_readNumber_83 ?_
  refine zr_iconst (pc := 86) (v := (1 : Int32)) h dX7_readNumber_86 (by decide) ?_
  refine zr_iadd (pc := 87) h dX7_readNumber_87 ?_
  refine zp_X7_36 (pc := 88) h gkc_1 dX7_readNumber_88 ?_
  refine zr_mu h (fun μ7 eμ7 => ?_)
  have hf := zLt_s eμ7 hf
  refine zr_goto (pc := 91) (tgt := 5) h dX7_readNumber_91 rfl ?_
  exact zr_weak h [true] (hk5 _ hf)

set_option maxRecDepth 100000 in
set_option maxHeartbeats 4000000 in
theorem fX7_readNumber_l5_ok {l : Launch} {g : gG} {ν : gM} {K : gKt} (h : gR l g cX7_readNumber RX7 1 none (gRm 0 0) none ν K) : ∀ (n : Nat) (μ : gM), fX7_readNumber_l5 n μ = some ν → K 5 [some (.ref (g.1 + 1))] [] μ := by
  intro n
  induction n with
  | zero =>
    intro μ hf
    cases (show (none : Option gM) = some _ from hf)
  | succ n ih =>
    intro μ hf
    unfold fX7_readNumber_l5 at hf
    refine zr_aload_n (pc := 5) h dX7_readNumber_5 rfl rfl ?_
    refine zf_X7_36 (pc := 6) h gkc_1 dX7_readNumber_6 ?_
    refine zr_aload_n (pc := 9) h dX7_readNumber_9 rfl rfl ?_
    refine zf_X7_34 (pc := 10) h gkc_1 dX7_readNumber_10 ?_
    have hf := zIf_s hf
    refine zr_icmp_ge (pc := 13) (tgt := 94) h dX7_readNumber_13 rfl (fun b13 => ?_) (fun b13 => ?_)
    · have hf := hf.1 b13
      exact zr_weak h [true] (fX7_readNumber_n94_ok h hf)
    · have hf := hf.2 b13
      refine zr_aload_n (pc := 16) h dX7_readNumber_16 rfl rfl ?_
      refine zf_X7_9 (pc := 17) h gkc_1 dX7_readNumber_17 ?_
      refine zr_aload_n (pc := 20) h dX7_readNumber_20 rfl rfl ?_
      refine zf_X7_36 (pc := 21) h gkc_1 dX7_readNumber_21 ?_
      obtain ⟨q5, hf⟩ := zCk_s hf
      refine zr_iald (pc := 24) h gkc_2 q5 rfl dX7_readNumber_24 ?_
      refine zr_bipush (pc := 25) (v := (48 : Int32)) h dX7_readNumber_25 (by decide) ?_
      have hf := zIf_s hf
      refine zr_icmp_lt (pc := 27) (tgt := 94) h dX7_readNumber_27 rfl (fun b12 => ?_) (fun b12 => ?_)
      · have hf := hf.1 b12
        exact zr_weak h [true] (fX7_readNumber_n94_ok h hf)
      · have hf := hf.2 b12
        refine zr_aload_n (pc := 30) h dX7_readNumber_30 rfl rfl ?_
        refine zf_X7_9 (pc := 31) h gkc_1 dX7_readNumber_31 ?_
        refine zr_aload_n (pc := 34) h dX7_readNumber_34 rfl rfl ?_
        refine zf_X7_36 (pc := 35) h gkc_1 dX7_readNumber_35 ?_
        obtain ⟨q6, hf⟩ := zCk_s hf
        refine zr_iald (pc := 38) h gkc_2 q6 rfl dX7_readNumber_38 ?_
        refine zr_bipush (pc := 39) (v := (57 : Int32)) h dX7_readNumber_39 (by decide) ?_
        have hf := zIf_s hf
        refine zr_icmp_gt (pc := 41) (tgt := 94) h dX7_readNumber_41 rfl (fun b11 => ?_) (fun b11 => ?_)
        · have hf := hf.1 b11
          exact zr_weak h [true] (fX7_readNumber_n94_ok h hf)
        · have hf := hf.2 b11
          refine zr_aload_n (pc := 44) h dX7_readNumber_44 rfl rfl ?_
          refine zf_X7_36 (pc := 45) h gkc_1 dX7_readNumber_45 ?_
          refine zr_aload_n (pc := 48) h dX7_readNumber_48 rfl rfl ?_
          refine zf_X7_48 (pc := 49) h gkc_1 dX7_readNumber_49 ?_
          refine zr_isub (pc := 52) h dX7_readNumber_52 ?_
          refine zr_iconst (pc := 53) (v := (4 : Int32)) h dX7_readNumber_53 (by decide) ?_
          have hf := zIf_s hf
          refine zr_icmp_ge (pc := 54) (tgt := 81) h dX7_readNumber_54 rfl (fun b10 => ?_) (fun b10 => ?_)
          · have hf := hf.1 b10
            exact zr_weak h [true] (fX7_readNumber_n81_ok h ih hf)
          · have hf := hf.2 b10
            refine zr_aload_n (pc := 57) h dX7_readNumber_57 rfl rfl ?_
            refine zr_aload_n (pc := 58) h dX7_readNumber_58 rfl rfl ?_
            refine zf_X7_57 (pc := 59) h gkc_1 dX7_readNumber_59 ?_
            refine zr_bipush (pc := 62) (v := (10 : Int32)) h dX7_readNumber_62 (by decide) ?_
            refine zr_imul (pc := 64) h dX7_readNumber_64 ?_
            refine zr_aload_n (pc := 65) h dX7_readNumber_65 rfl rfl ?_
            refine zf_X7_9 (pc := 66) h gkc_1 dX7_readNumber_66 ?_
            refine zr_aload_n (pc := 69) h dX7_readNumber_69 rfl rfl ?_
            refine zf_X7_36 (pc := 70) h gkc_1 dX7_readNumber_70 ?_
            obtain ⟨q8, hf⟩ := zCk_s hf
            refine zr_iald (pc := 73) h gkc_2 q8 rfl dX7_readNumber_73 ?_
            refine zr_iadd (pc := 74) h dX7_readNumber_74 ?_
            refine zr_bipush (pc := 75) (v := (48 : Int32)) h dX7_readNumber_75 (by decide) ?_
            refine zr_isub (pc := 77) h dX7_readNumber_77 ?_
            refine zp_X7_57 (pc := 78) h gkc_1 dX7_readNumber_78 ?_
            refine zr_mu h (fun μ9 eμ9 => ?_)
            have hf := zLt_s eμ9 hf
            exact zr_weak h [true] (fX7_readNumber_n81_ok h ih hf)

set_option maxRecDepth 100000 in
set_option maxHeartbeats 4000000 in
theorem cX7_readNumber_ok {l : Launch} {g : gG} {μ : gM} {ν : gM} (hf : fX7_readNumber μ = some ν) : gMet l g yX7_readNumber cX7_readNumber 1 none 0 0 [.ref (g.1 + 1)] μ none ν := by
  refine gMet_of (gIni [.ref (g.1 + 1)] ++ List.replicate 0 none) (by decide) (gIni_ok _ _) (Nat.le_of_ble_eq_true rfl) (fun K h => ?_)
  show K 0 [some (.ref (g.1 + 1))] [] μ
  unfold fX7_readNumber at hf
  refine zr_aload_n (pc := 0) h dX7_readNumber_0 rfl rfl ?_
  refine zr_iconst (pc := 1) (v := (0 : Int32)) h dX7_readNumber_1 (by decide) ?_
  refine zp_X7_57 (pc := 2) h gkc_1 dX7_readNumber_2 ?_
  refine zr_mu h (fun μ1 eμ1 => ?_)
  have hf := zLt_s eμ1 hf
  exact zr_weak h [true] (fX7_readNumber_l5_ok h 100000 _ hf)

set_option maxRecDepth 100000 in
set_option maxHeartbeats 4000000 in
theorem fX7_advance_n175_ok {l : Launch} {g : gG} {ν : gM} {K : gKt} (h : gR l g cX7_advance RX7 3 none (gRm 1 20) none ν K) {y1 : Int32} {μ : gM} (hf : fX7_advance_n175 y1 μ = some ν) : K 175 [some (.ref (g.1 + 1)), some (.int y1), none] [] μ := by
  unfold fX7_advance_n175 at hf
  refine zr_aload_n (pc := 175) h dX7_advance_175 rfl rfl ?_
  refine zf_X7_48 (pc := 176) h gkc_1 dX7_advance_176 ?_
  refine zr_iload_n (pc := 179) h dX7_advance_179 rfl rfl ?_
  have hf := zIf_s hf
  refine zr_icmp_ne (pc := 180) (tgt := 196) h dX7_advance_180 rfl (fun b9 => ?_) (fun b9 => ?_)
  · have hf := hf.2 b9
    exact zr_vret (pc := 196) h dX7_advance_196 rfl (zRv hf)
  · have hf := hf.1 b9
    refine zr_aload_n (pc := 183) h dX7_advance_183 rfl rfl ?_
    refine zf_X7_39 (pc := 184) h gkc_1 dX7_advance_184 ?_
    refine zr_iconst (pc := 187) (v := (3 : Int32)) h dX7_advance_187 (by decide) ?_
    have hf := zIf_s hf
    refine zr_icmp_eq (pc := 188) (tgt := 196) h dX7_advance_188 rfl (fun b8 => ?_) (fun b8 => ?_)
    · have hf := hf.1 b8
      exact zr_vret (pc := 196) h dX7_advance_196 rfl (zRv hf)
    · have hf := hf.2 b8
      refine zr_aload_n (pc := 191) h dX7_advance_191 rfl rfl ?_
      refine zr_iconst (pc := 192) (v := (4 : Int32)) h dX7_advance_192 (by decide) ?_
      refine zp_X7_39 (pc := 193) h gkc_1 dX7_advance_193 ?_
      refine zr_mu h (fun μ7 eμ7 => ?_)
      have hf := zLt_s eμ7 hf
      exact zr_vret (pc := 196) h dX7_advance_196 rfl (zRv hf)

set_option maxRecDepth 100000 in
set_option maxHeartbeats 4000000 in
theorem fX7_advance_n162_ok {l : Launch} {g : gG} {ν : gM} {K : gKt} (h : gR l g cX7_advance RX7 3 none (gRm 1 20) none ν K) {y1 : Int32} {z0 : Int32} {μ : gM} (hf : fX7_advance_n162 y1 z0 μ = some ν) : K 162 [some (.ref (g.1 + 1)), some (.int y1), none] [.int z0, .ref (g.1 + 1)] μ := by
  unfold fX7_advance_n162 at hf
  refine zp_X7_39 (pc := 162) h gkc_1 dX7_advance_162 ?_
  refine zr_mu h (fun μ5 eμ5 => ?_)
  have hf := zLt_s eμ5 hf
  refine zr_aload_n (pc := 165) h dX7_advance_165 rfl rfl ?_
  refine zr_dup (pc := 166) h dX7_advance_166 rfl ?_
  refine zf_X7_36 (pc := 167) h gkc_1 dX7_advance_167 ?_
  refine zr_iconst (pc := 170) (v := (1 : Int32)) h dX7_advance_170 (by decide) ?_
  refine zr_iadd (pc := 171) h dX7_advance_171 ?_
  refine zp_X7_36 (pc := 172) h gkc_1 dX7_advance_172 ?_
  refine zr_mu h (fun μ6 eμ6 => ?_)
  have hf := zLt_s eμ6 hf
  exact zr_weak h [true, true, false] (fX7_advance_n175_ok h hf)

set_option maxRecDepth 100000 in
set_option maxHeartbeats 4000000 in
theorem fX7_advance_n150_ok {l : Launch} {g : gG} {ν : gM} {K : gKt} (h : gR l g cX7_advance RX7 3 none (gRm 1 20) none ν K) {y1 : Int32} {y2 : Int32} {μ : gM} (hf : fX7_advance_n150 y1 y2 μ = some ν) : K 150 [some (.ref (g.1 + 1)), some (.int y1), some (.int y2)] [] μ := by
  unfold fX7_advance_n150 at hf
  refine zr_aload_n (pc := 150) h dX7_advance_150 rfl rfl ?_
  refine zr_iload_n (pc := 151) h dX7_advance_151 rfl rfl ?_
  refine zr_bipush (pc := 152) (v := (59 : Int32)) h dX7_advance_152 (by decide) ?_
  have hf := zIf_s hf
  refine zr_icmp_ne (pc := 154) (tgt := 161) h dX7_advance_154 rfl (fun b10 => ?_) (fun b10 => ?_)
  · have hf := hf.2 b10
    refine zr_iconst (pc := 161) (v := (4 : Int32)) h dX7_advance_161 (by decide) ?_
    exact zr_weak h [true, true, false] (fX7_advance_n162_ok h hf)
  · have hf := hf.1 b10
    refine zr_iconst (pc := 157) (v := (3 : Int32)) h dX7_advance_157 (by decide) ?_
    refine zr_goto (pc := 158) (tgt := 162) h dX7_advance_158 rfl ?_
    exact zr_weak h [true, true, false] (fX7_advance_n162_ok h hf)

set_option maxRecDepth 100000 in
set_option maxHeartbeats 4000000 in
theorem fX7_advance_n131_ok {l : Launch} {g : gG} {ν : gM} {K : gKt} (h : gR l g cX7_advance RX7 3 none (gRm 1 20) none ν K) {y1 : Int32} {y2 : Int32} {μ : gM} (hf : fX7_advance_n131 y1 y2 μ = some ν) : K 131 [some (.ref (g.1 + 1)), some (.int y1), some (.int y2)] [] μ := by
  unfold fX7_advance_n131 at hf
  refine zr_iload_n (pc := 131) h dX7_advance_131 rfl rfl ?_
  refine zr_bipush (pc := 132) (v := (48 : Int32)) h dX7_advance_132 (by decide) ?_
  have hf := zIf_s hf
  refine zr_icmp_lt (pc := 134) (tgt := 150) h dX7_advance_134 rfl (fun b13 => ?_) (fun b13 => ?_)
  · have hf := hf.1 b13
    exact zr_weak h [true, true, true] (fX7_advance_n150_ok h hf)
  · have hf := hf.2 b13
    refine zr_iload_n (pc := 137) h dX7_advance_137 rfl rfl ?_
    refine zr_bipush (pc := 138) (v := (57 : Int32)) h dX7_advance_138 (by decide) ?_
    have hf := zIf_s hf
    refine zr_icmp_gt (pc := 140) (tgt := 150) h dX7_advance_140 rfl (fun b12 => ?_) (fun b12 => ?_)
    · have hf := hf.1 b12
      exact zr_weak h [true, true, true] (fX7_advance_n150_ok h hf)
    · have hf := hf.2 b12
      refine zr_aload_n (pc := 143) h dX7_advance_143 rfl rfl ?_
      obtain ⟨μ11, eμ11, hf⟩ := zBd_s hf
      refine zm_X7_54 (pc := 144) h gkc_1 ⟨by decide, by decide⟩ (cX7_readNumber_ok eμ11) rfl (Nat.le_of_ble_eq_true rfl) dX7_advance_144 rfl ?_
      refine zr_goto (pc := 147) (tgt := 175) h dX7_advance_147 rfl ?_
      exact zr_weak h [true, true, false] (fX7_advance_n175_ok h hf)

set_option maxRecDepth 100000 in
set_option maxHeartbeats 4000000 in
theorem fX7_advance_n77_ok {l : Launch} {g : gG} {ν : gM} {K : gKt} (h : gR l g cX7_advance RX7 3 none (gRm 1 20) none ν K) {y1 : Int32} {μ : gM} (hf : fX7_advance_n77 y1 μ = some ν) : K 77 [some (.ref (g.1 + 1)), some (.int y1), none] [] μ := by
  unfold fX7_advance_n77 at hf
  refine zr_aload_n (pc := 77) h dX7_advance_77 rfl rfl ?_
  refine zr_aload_n (pc := 78) h dX7_advance_78 rfl rfl ?_
  refine zf_X7_36 (pc := 79) h gkc_1 dX7_advance_79 ?_
  refine zp_X7_48 (pc := 82) h gkc_1 dX7_advance_82 ?_
  refine zr_mu h (fun μ2 eμ2 => ?_)
  have hf := zLt_s eμ2 hf
  refine zr_aload_n (pc := 85) h dX7_advance_85 rfl rfl ?_
  refine zf_X7_36 (pc := 86) h gkc_1 dX7_advance_86 ?_
  refine zr_aload_n (pc := 89) h dX7_advance_89 rfl rfl ?_
  refine zf_X7_34 (pc := 90) h gkc_1 dX7_advance_90 ?_
  have hf := zIf_s hf
  refine zr_icmp_lt (pc := 93) (tgt := 102) h dX7_advance_93 rfl (fun b18 => ?_) (fun b18 => ?_)
  · have hf := hf.1 b18
    refine zr_aload_n (pc := 102) h dX7_advance_102 rfl rfl ?_
    refine zf_X7_9 (pc := 103) h gkc_1 dX7_advance_103 ?_
    refine zr_aload_n (pc := 106) h dX7_advance_106 rfl rfl ?_
    refine zf_X7_36 (pc := 107) h gkc_1 dX7_advance_107 ?_
    obtain ⟨q3, hf⟩ := zCk_s hf
    refine zr_iald (pc := 110) h gkc_2 q3 rfl dX7_advance_110 ?_
    refine zr_topi h (fun x4 ex4 => ?_)
    have hf := zLt_s ex4 hf
    refine zr_istore_n (pc := 111) h dX7_advance_111 rfl (by decide) rfl ?_
    refine zr_iload_n (pc := 112) h dX7_advance_112 rfl rfl ?_
    refine zr_bipush (pc := 113) (v := (97 : Int32)) h dX7_advance_113 (by decide) ?_
    have hf := zIf_s hf
    refine zr_icmp_lt (pc := 115) (tgt := 131) h dX7_advance_115 rfl (fun b16 => ?_) (fun b16 => ?_)
    · have hf := hf.1 b16
      exact zr_weak h [true, true, true] (fX7_advance_n131_ok h hf)
    · have hf := hf.2 b16
      refine zr_iload_n (pc := 118) h dX7_advance_118 rfl rfl ?_
      refine zr_bipush (pc := 119) (v := (122 : Int32)) h dX7_advance_119 (by decide) ?_
      have hf := zIf_s hf
      refine zr_icmp_gt (pc := 121) (tgt := 131) h dX7_advance_121 rfl (fun b15 => ?_) (fun b15 => ?_)
      · have hf := hf.1 b15
        exact zr_weak h [true, true, true] (fX7_advance_n131_ok h hf)
      · have hf := hf.2 b15
        refine zr_aload_n (pc := 124) h dX7_advance_124 rfl rfl ?_
        obtain ⟨μ14, eμ14, hf⟩ := zBd_s hf
        refine zm_X7_51 (pc := 125) h gkc_1 ⟨by decide, by decide⟩ (cX7_readWord_ok eμ14) rfl (Nat.le_of_ble_eq_true rfl) dX7_advance_125 rfl ?_
        refine zr_goto (pc := 128) (tgt := 175) h dX7_advance_128 rfl ?_
        exact zr_weak h [true, true, false] (fX7_advance_n175_ok h hf)
  · have hf := hf.2 b18
    refine zr_aload_n (pc := 96) h dX7_advance_96 rfl rfl ?_
    refine zr_iconst (pc := 97) (v := (0 : Int32)) h dX7_advance_97 (by decide) ?_
    refine zp_X7_39 (pc := 98) h gkc_1 dX7_advance_98 ?_
    refine zr_mu h (fun μ17 eμ17 => ?_)
    have hf := zLt_s eμ17 hf
    exact zr_vret (pc := 101) h dX7_advance_101 rfl (zRv hf)

set_option maxRecDepth 100000 in
set_option maxHeartbeats 4000000 in
theorem fX7_advance_n64_ok {l : Launch} {g : gG} {k25 : Int32 → gM → Option gM} {ν : gM} {K : gKt} (h : gR l g cX7_advance RX7 3 none (gRm 1 20) none ν K) (hk25 : ∀ (y1 : Int32) (ν1 : gM), k25 y1 ν1 = some ν → K 25 [some (.ref (g.1 + 1)), some (.int y1), none] [] ν1) {y1 : Int32} {μ : gM} (hf : fX7_advance_n64 k25 y1 μ = some ν) : K 64 [some (.ref (g.1 + 1)), some (.int y1), none] [] μ := by
  unfold fX7_advance_n64 at hf
  refine zr_aload_n (pc := 64) h dX7_advance_64 rfl rfl ?_
  refine zr_dup (pc := 65) h dX7_advance_65 rfl ?_
  refine zf_X7_36 (pc := 66) h gkc_1 dX7_advance_66 ?_
  refine zr_iconst (pc := 69) (v := (1 : Int32)) h dX7_advance_69 (by decide) ?_
  refine zr_iadd (pc := 70) h dX7_advance_70 ?_
  refine zp_X7_36 (pc := 71) h gkc_1 dX7_advance_71 ?_
  refine zr_mu h (fun μ20 eμ20 => ?_)
  have hf := zLt_s eμ20 hf
  refine zr_goto (pc := 74) (tgt := 25) h dX7_advance_74 rfl ?_
  exact zr_weak h [true, true, false] (hk25 _ _ hf)

set_option maxRecDepth 100000 in
set_option maxHeartbeats 4000000 in
theorem fX7_advance_l25_ok {l : Launch} {g : gG} {ν : gM} {K : gKt} (h : gR l g cX7_advance RX7 3 none (gRm 1 20) none ν K) : ∀ (n : Nat) (y1 : Int32) (μ : gM), fX7_advance_l25 n y1 μ = some ν → K 25 [some (.ref (g.1 + 1)), some (.int y1), none] [] μ := by
  intro n
  induction n with
  | zero =>
    intro y1 μ hf
    cases (show (none : Option gM) = some _ from hf)
  | succ n ih =>
    intro y1 μ hf
    unfold fX7_advance_l25 at hf
    refine zr_aload_n (pc := 25) h dX7_advance_25 rfl rfl ?_
    refine zf_X7_36 (pc := 26) h gkc_1 dX7_advance_26 ?_
    refine zr_aload_n (pc := 29) h dX7_advance_29 rfl rfl ?_
    refine zf_X7_34 (pc := 30) h gkc_1 dX7_advance_30 ?_
    have hf := zIf_s hf
    refine zr_icmp_ge (pc := 33) (tgt := 77) h dX7_advance_33 rfl (fun b24 => ?_) (fun b24 => ?_)
    · have hf := hf.1 b24
      exact zr_weak h [true, true, false] (fX7_advance_n77_ok h hf)
    · have hf := hf.2 b24
      refine zr_aload_n (pc := 36) h dX7_advance_36 rfl rfl ?_
      refine zf_X7_9 (pc := 37) h gkc_1 dX7_advance_37 ?_
      refine zr_aload_n (pc := 40) h dX7_advance_40 rfl rfl ?_
      refine zf_X7_36 (pc := 41) h gkc_1 dX7_advance_41 ?_
      obtain ⟨q19, hf⟩ := zCk_s hf
      refine zr_iald (pc := 44) h gkc_2 q19 rfl dX7_advance_44 ?_
      refine zr_bipush (pc := 45) (v := (10 : Int32)) h dX7_advance_45 (by decide) ?_
      have hf := zIf_s hf
      refine zr_icmp_eq (pc := 47) (tgt := 64) h dX7_advance_47 rfl (fun b23 => ?_) (fun b23 => ?_)
      · have hf := hf.1 b23
        exact zr_weak h [true, true, false] (fX7_advance_n64_ok h ih hf)
      · have hf := hf.2 b23
        refine zr_aload_n (pc := 50) h dX7_advance_50 rfl rfl ?_
        refine zf_X7_9 (pc := 51) h gkc_1 dX7_advance_51 ?_
        refine zr_aload_n (pc := 54) h dX7_advance_54 rfl rfl ?_
        refine zf_X7_36 (pc := 55) h gkc_1 dX7_advance_55 ?_
        obtain ⟨q21, hf⟩ := zCk_s hf
        refine zr_iald (pc := 58) h gkc_2 q21 rfl dX7_advance_58 ?_
        refine zr_bipush (pc := 59) (v := (32 : Int32)) h dX7_advance_59 (by decide) ?_
        have hf := zIf_s hf
        refine zr_icmp_ne (pc := 61) (tgt := 77) h dX7_advance_61 rfl (fun b22 => ?_) (fun b22 => ?_)
        · have hf := hf.2 b22
          exact zr_weak h [true, true, false] (fX7_advance_n77_ok h hf)
        · have hf := hf.1 b22
          exact zr_weak h [true, true, false] (fX7_advance_n64_ok h ih hf)

set_option maxRecDepth 100000 in
set_option maxHeartbeats 4000000 in
theorem cX7_advance_ok {l : Launch} {g : gG} {μ : gM} {ν : gM} (hf : fX7_advance μ = some ν) : gMet l g yX7_advance cX7_advance 3 none 1 20 [.ref (g.1 + 1)] μ none ν := by
  refine gMet_of (gIni [.ref (g.1 + 1)] ++ List.replicate 2 none) (by decide) (gIni_ok _ _) (Nat.le_of_ble_eq_true rfl) (fun K h => ?_)
  show K 0 [some (.ref (g.1 + 1)), none, none] [] μ
  unfold fX7_advance at hf
  refine zr_aload_n (pc := 0) h dX7_advance_0 rfl rfl ?_
  refine zf_X7_39 (pc := 1) h gkc_1 dX7_advance_1 ?_
  refine zr_iconst (pc := 4) (v := (1 : Int32)) h dX7_advance_4 (by decide) ?_
  have hf := zIf_s hf
  refine zr_icmp_eq (pc := 5) (tgt := 16) h dX7_advance_5 rfl (fun b27 => ?_) (fun b27 => ?_)
  · have hf := hf.1 b27
    refine zr_aload_n (pc := 16) h dX7_advance_16 rfl rfl ?_
    refine zf_X7_36 (pc := 17) h gkc_1 dX7_advance_17 ?_
    refine zr_goto (pc := 20) (tgt := 24) h dX7_advance_20 rfl ?_
    refine zr_topi h (fun x1 ex1 => ?_)
    have hf := zLt_s ex1 hf
    refine zr_istore_n (pc := 24) h dX7_advance_24 rfl (by decide) rfl ?_
    exact zr_weak h [true, true, false] (fX7_advance_l25_ok h 100000 _ _ hf)
  · have hf := hf.2 b27
    refine zr_aload_n (pc := 8) h dX7_advance_8 rfl rfl ?_
    refine zf_X7_39 (pc := 9) h gkc_1 dX7_advance_9 ?_
    refine zr_iconst (pc := 12) (v := (2 : Int32)) h dX7_advance_12 (by decide) ?_
    have hf := zIf_s hf
    refine zr_icmp_ne (pc := 13) (tgt := 23) h dX7_advance_13 rfl (fun b26 => ?_) (fun b26 => ?_)
    · have hf := hf.2 b26
      refine zr_iconst (pc := 23) (v := (-1 : Int32)) h dX7_advance_23 (by decide) ?_
      refine zr_istore_n (pc := 24) h dX7_advance_24 rfl (by decide) rfl ?_
      exact zr_weak h [true, true, false] (fX7_advance_l25_ok h 100000 _ _ hf)
    · have hf := hf.1 b26
      refine zr_aload_n (pc := 16) h dX7_advance_16 rfl rfl ?_
      refine zf_X7_36 (pc := 17) h gkc_1 dX7_advance_17 ?_
      refine zr_goto (pc := 20) (tgt := 24) h dX7_advance_20 rfl ?_
      refine zr_topi h (fun x25 ex25 => ?_)
      have hf := zLt_s ex25 hf
      refine zr_istore_n (pc := 24) h dX7_advance_24 rfl (by decide) rfl ?_
      exact zr_weak h [true, true, false] (fX7_advance_l25_ok h 100000 _ _ hf)

set_option maxRecDepth 100000 in
set_option maxHeartbeats 4000000 in
theorem cX7_open_ok {l : Launch} {g : gG} {μ : gM} {ν : gM} (hf : fX7_open μ = some ν) : gMet l g yX7_open cX7_open 1 none 2 42 [.ref (g.1 + 1)] μ none ν := by
  refine gMet_of (gIni [.ref (g.1 + 1)] ++ List.replicate 0 none) (by decide) (gIni_ok _ _) (Nat.le_of_ble_eq_true rfl) (fun K h => ?_)
  show K 0 [some (.ref (g.1 + 1))] [] μ
  unfold fX7_open at hf
  refine zr_aload_n (pc := 0) h dX7_open_0 rfl rfl ?_
  refine zr_iconst (pc := 1) (v := (0 : Int32)) h dX7_open_1 (by decide) ?_
  refine zp_X7_36 (pc := 2) h gkc_1 dX7_open_2 ?_
  refine zr_mu h (fun μ1 eμ1 => ?_)
  have hf := zLt_s eμ1 hf
  refine zr_aload_n (pc := 5) h dX7_open_5 rfl rfl ?_
  refine zr_iconst (pc := 6) (v := (3 : Int32)) h dX7_open_6 (by decide) ?_
  refine zp_X7_39 (pc := 7) h gkc_1 dX7_open_7 ?_
  refine zr_mu h (fun μ2 eμ2 => ?_)
  have hf := zLt_s eμ2 hf
  refine zr_aload_n (pc := 10) h dX7_open_10 rfl rfl ?_
  refine zr_iconst (pc := 11) (v := (0 : Int32)) h dX7_open_11 (by decide) ?_
  refine zp_X7_42 (pc := 12) h gkc_1 dX7_open_12 ?_
  refine zr_mu h (fun μ3 eμ3 => ?_)
  have hf := zLt_s eμ3 hf
  refine zr_aload_n (pc := 15) h dX7_open_15 rfl rfl ?_
  refine zr_iconst (pc := 16) (v := (-1 : Int32)) h dX7_open_16 (by decide) ?_
  refine zp_X7_18 (pc := 17) h gkc_1 dX7_open_17 ?_
  refine zr_mu h (fun μ4 eμ4 => ?_)
  have hf := zLt_s eμ4 hf
  refine zr_aload_n (pc := 20) h dX7_open_20 rfl rfl ?_
  obtain ⟨μ5, eμ5, hf⟩ := zBd_s hf
  refine zm_X7_45 (pc := 21) h gkc_1 ⟨by decide, by decide⟩ (cX7_advance_ok eμ5) rfl (Nat.le_of_ble_eq_true rfl) dX7_open_21 rfl ?_
  exact zr_vret (pc := 24) h dX7_open_24 rfl (zRv hf)

set_option maxRecDepth 100000 in
set_option maxHeartbeats 4000000 in
theorem cX7_isEnded_ok {l : Launch} {g : gG} {μ : gM} {r : Int32} (hf : fX7_isEnded μ = some r) : gMet l g yX7_isEnded cX7_isEnded 1 (some .boolean) 0 0 [.ref (g.1 + 1)] μ (some (.int r)) μ := by
  refine gMet_of (gIni [.ref (g.1 + 1)] ++ List.replicate 0 none) (by decide) (gIni_ok _ _) (Nat.le_of_ble_eq_true rfl) (fun K h => ?_)
  show K 0 [some (.ref (g.1 + 1))] [] μ
  unfold fX7_isEnded at hf
  refine zr_aload_n (pc := 0) h dX7_isEnded_0 rfl rfl ?_
  refine zf_X7_39 (pc := 1) h gkc_1 dX7_isEnded_1 ?_
  have hf := zIf_s hf
  refine zr_if_ne (pc := 4) (tgt := 11) h dX7_isEnded_4 rfl (fun b1 => ?_) (fun b1 => ?_)
  · have hf := hf.2 b1
    refine zr_iconst (pc := 11) (v := (0 : Int32)) h dX7_isEnded_11 (by decide) ?_
    exact zr_zret (pc := 12) h rfl dX7_isEnded_12 (zRi hf) rfl
  · have hf := hf.1 b1
    refine zr_iconst (pc := 7) (v := (1 : Int32)) h dX7_isEnded_7 (by decide) ?_
    refine zr_goto (pc := 8) (tgt := 12) h dX7_isEnded_8 rfl ?_
    exact zr_zret (pc := 12) h rfl dX7_isEnded_12 (zRi hf) rfl

set_option maxRecDepth 100000 in
set_option maxHeartbeats 4000000 in
theorem fX7_ownWord_l2_ok {l : Launch} {g : gG} {r : Int32} {μe : gM} {K : gKt} (h : gR l g cX7_ownWord RX7 2 (some .int) (gRm 0 0) (some (.int r)) μe K) : ∀ (n : Nat) (y1 : Int32), fX7_ownWord_l2 n y1 μe = some r → K 2 [some (.ref (g.1 + 1)), some (.int y1)] [] μe := by
  intro n
  induction n with
  | zero =>
    intro y1 hf
    cases (show (none : Option Int32) = some _ from hf)
  | succ n ih =>
    intro y1 hf
    unfold fX7_ownWord_l2 at hf
    refine zr_iload_n (pc := 2) h dX7_ownWord_2 rfl rfl ?_
    refine zr_bipush (pc := 3) (v := (21 : Int32)) h dX7_ownWord_3 (by decide) ?_
    have hf := zIf_s hf
    refine zr_icmp_ge (pc := 5) (tgt := 37) h dX7_ownWord_5 rfl (fun b5 => ?_) (fun b5 => ?_)
    · have hf := hf.1 b5
      refine zr_iconst (pc := 37) (v := (-1 : Int32)) h dX7_ownWord_37 (by decide) ?_
      exact zr_iret (pc := 38) h dX7_ownWord_38 (zRi hf) rfl
    · have hf := hf.2 b5
      refine zr_aload_n (pc := 8) h dX7_ownWord_8 rfl rfl ?_
      refine zf_X7_39 (pc := 9) h gkc_1 dX7_ownWord_9 ?_
      refine zr_iconst (pc := 12) (v := (1 : Int32)) h dX7_ownWord_12 (by decide) ?_
      have hf := zIf_s hf
      refine zr_icmp_ne (pc := 13) (tgt := 37) h dX7_ownWord_13 rfl (fun b4 => ?_) (fun b4 => ?_)
      · have hf := hf.2 b4
        refine zr_iconst (pc := 37) (v := (-1 : Int32)) h dX7_ownWord_37 (by decide) ?_
        exact zr_iret (pc := 38) h dX7_ownWord_38 (zRi hf) rfl
      · have hf := hf.1 b4
        refine zr_aload_n (pc := 16) h dX7_ownWord_16 rfl rfl ?_
        refine zf_X7_15 (pc := 17) h gkc_1 dX7_ownWord_17 ?_
        refine zr_iload_n (pc := 20) h dX7_ownWord_20 rfl rfl ?_
        obtain ⟨q1, hf⟩ := zCk_s hf
        refine zr_iald (pc := 21) h gkc_3 q1 rfl dX7_ownWord_21 ?_
        refine zr_aload_n (pc := 22) h dX7_ownWord_22 rfl rfl ?_
        refine zf_X7_57 (pc := 23) h gkc_1 dX7_ownWord_23 ?_
        have hf := zIf_s hf
        refine zr_icmp_ne (pc := 26) (tgt := 31) h dX7_ownWord_26 rfl (fun b3 => ?_) (fun b3 => ?_)
        · have hf := hf.2 b3
          refine zr_iincx (pc := 31) h dX7_ownWord_31 rfl (by decide) rfl (c := (1 : Int32)) (by decide) (fun x2 ex2 => ?_)
          have hf := zLt_s ex2 hf
          refine zr_goto (pc := 34) (tgt := 2) h dX7_ownWord_34 rfl ?_
          exact zr_weak h [true, true] (ih _ hf)
        · have hf := hf.1 b3
          refine zr_iload_n (pc := 29) h dX7_ownWord_29 rfl rfl ?_
          exact zr_iret (pc := 30) h dX7_ownWord_30 (zRi hf) rfl

set_option maxRecDepth 100000 in
set_option maxHeartbeats 4000000 in
theorem cX7_ownWord_ok {l : Launch} {g : gG} {μ : gM} {r : Int32} (hf : fX7_ownWord μ = some r) : gMet l g yX7_ownWord cX7_ownWord 2 (some .int) 0 0 [.ref (g.1 + 1)] μ (some (.int r)) μ := by
  refine gMet_of (gIni [.ref (g.1 + 1)] ++ List.replicate 1 none) (by decide) (gIni_ok _ _) (Nat.le_of_ble_eq_true rfl) (fun K h => ?_)
  show K 0 [some (.ref (g.1 + 1)), none] [] μ
  unfold fX7_ownWord at hf
  refine zr_iconst (pc := 0) (v := (0 : Int32)) h dX7_ownWord_0 (by decide) ?_
  refine zr_istore_n (pc := 1) h dX7_ownWord_1 rfl (by decide) rfl ?_
  exact zr_weak h [true, true] (fX7_ownWord_l2_ok h 100000 _ hf)

set_option maxRecDepth 100000 in
set_option maxHeartbeats 4000000 in
theorem cX7_refuse_ok {l : Launch} {g : gG} {a1 : Int32} {a2 : Int32} {μ : gM} {r : Int32} {ν : gM} (hf : fX7_refuse a1 a2 μ = some (r, ν)) : gMet l g yX7_refuse cX7_refuse 3 (some .boolean) 0 0 [.ref (g.1 + 1), .int a1, .int a2] μ (some (.int r)) ν := by
  refine gMet_of (gIni [.ref (g.1 + 1), .int a1, .int a2] ++ List.replicate 0 none) (by decide) (gIni_ok _ _) (Nat.le_of_ble_eq_true rfl) (fun K h => ?_)
  show K 0 [some (.ref (g.1 + 1)), some (.int a1), some (.int a2)] [] μ
  unfold fX7_refuse at hf
  refine zr_aload_n (pc := 0) h dX7_refuse_0 rfl rfl ?_
  refine zr_iload_n (pc := 1) h dX7_refuse_1 rfl rfl ?_
  refine zp_X7_42 (pc := 2) h gkc_1 dX7_refuse_2 ?_
  refine zr_mu h (fun μ1 eμ1 => ?_)
  have hf := zLt_s eμ1 hf
  refine zr_aload_n (pc := 5) h dX7_refuse_5 rfl rfl ?_
  refine zr_iload_n (pc := 6) h dX7_refuse_6 rfl rfl ?_
  refine zp_X7_18 (pc := 7) h gkc_1 dX7_refuse_7 ?_
  refine zr_mu h (fun μ2 eμ2 => ?_)
  have hf := zLt_s eμ2 hf
  refine zr_iconst (pc := 10) (v := (0 : Int32)) h dX7_refuse_10 (by decide) ?_
  exact zr_zret (pc := 11) h rfl dX7_refuse_11 (zRp hf).1 (zRp hf).2

set_option maxRecDepth 100000 in
set_option maxHeartbeats 4000000 in
theorem cX7_isName_ok {l : Launch} {g : gG} {μ : gM} {r : Int32} (hf : fX7_isName μ = some r) : gMet l g yX7_isName cX7_isName 1 (some .boolean) 1 21 [.ref (g.1 + 1)] μ (some (.int r)) μ := by
  refine gMet_of (gIni [.ref (g.1 + 1)] ++ List.replicate 0 none) (by decide) (gIni_ok _ _) (Nat.le_of_ble_eq_true rfl) (fun K h => ?_)
  show K 0 [some (.ref (g.1 + 1))] [] μ
  unfold fX7_isName at hf
  refine zr_aload_n (pc := 0) h dX7_isName_0 rfl rfl ?_
  refine zf_X7_39 (pc := 1) h gkc_1 dX7_isName_1 ?_
  refine zr_iconst (pc := 4) (v := (1 : Int32)) h dX7_isName_4 (by decide) ?_
  have hf := zIf_s hf
  refine zr_icmp_ne (pc := 5) (tgt := 20) h dX7_isName_5 rfl (fun b3 => ?_) (fun b3 => ?_)
  · have hf := hf.2 b3
    refine zr_iconst (pc := 20) (v := (0 : Int32)) h dX7_isName_20 (by decide) ?_
    exact zr_zret (pc := 21) h rfl dX7_isName_21 (zRi hf) rfl
  · have hf := hf.1 b3
    refine zr_aload_n (pc := 8) h dX7_isName_8 rfl rfl ?_
    obtain ⟨x1, ex1, hf⟩ := zBd_s hf
    refine zm_X7_60 (pc := 9) h gkc_1 ⟨by decide, by decide⟩ (cX7_ownWord_ok ex1) rfl (Nat.le_of_ble_eq_true rfl) dX7_isName_9 rfl ?_
    refine zr_iconst (pc := 12) (v := (-1 : Int32)) h dX7_isName_12 (by decide) ?_
    have hf := zIf_s hf
    refine zr_icmp_ne (pc := 13) (tgt := 20) h dX7_isName_13 rfl (fun b2 => ?_) (fun b2 => ?_)
    · have hf := hf.2 b2
      refine zr_iconst (pc := 20) (v := (0 : Int32)) h dX7_isName_20 (by decide) ?_
      exact zr_zret (pc := 21) h rfl dX7_isName_21 (zRi hf) rfl
    · have hf := hf.1 b2
      refine zr_iconst (pc := 16) (v := (1 : Int32)) h dX7_isName_16 (by decide) ?_
      refine zr_goto (pc := 17) (tgt := 21) h dX7_isName_17 rfl ?_
      exact zr_zret (pc := 21) h rfl dX7_isName_21 (zRi hf) rfl

set_option maxRecDepth 100000 in
set_option maxHeartbeats 4000000 in
theorem cX7_pass_ok {l : Launch} {g : gG} {a1 : Int32} {μ : gM} {r : Int32} {ν : gM} (hf : fX7_pass a1 μ = some (r, ν)) : gMet l g yX7_pass cX7_pass 2 (some .boolean) 2 42 [.ref (g.1 + 1), .int a1] μ (some (.int r)) ν := by
  refine gMet_of (gIni [.ref (g.1 + 1), .int a1] ++ List.replicate 0 none) (by decide) (gIni_ok _ _) (Nat.le_of_ble_eq_true rfl) (fun K h => ?_)
  show K 0 [some (.ref (g.1 + 1)), some (.int a1)] [] μ
  unfold fX7_pass at hf
  refine zr_aload_n (pc := 0) h dX7_pass_0 rfl rfl ?_
  obtain ⟨x1, ex1, hf⟩ := zBd_s hf
  refine zm_X7_60 (pc := 1) h gkc_1 ⟨by decide, by decide⟩ (cX7_ownWord_ok ex1) rfl (Nat.le_of_ble_eq_true rfl) dX7_pass_1 rfl ?_
  refine zr_iload_n (pc := 4) h dX7_pass_4 rfl rfl ?_
  have hf := zIf_s hf
  refine zr_icmp_eq (pc := 5) (tgt := 18) h dX7_pass_5 rfl (fun b6 => ?_) (fun b6 => ?_)
  · have hf := hf.1 b6
    refine zr_aload_n (pc := 18) h dX7_pass_18 rfl rfl ?_
    obtain ⟨μ2, eμ2, hf⟩ := zBd_s hf
    refine zm_X7_45 (pc := 19) h gkc_1 ⟨by decide, by decide⟩ (cX7_advance_ok eμ2) rfl (Nat.le_of_ble_eq_true rfl) dX7_pass_19 rfl ?_
    refine zr_iconst (pc := 22) (v := (1 : Int32)) h dX7_pass_22 (by decide) ?_
    exact zr_zret (pc := 23) h rfl dX7_pass_23 (zRp hf).1 (zRp hf).2
  · have hf := hf.2 b6
    refine zr_aload_n (pc := 8) h dX7_pass_8 rfl rfl ?_
    refine zr_iconst (pc := 9) (v := (1 : Int32)) h dX7_pass_9 (by decide) ?_
    refine zr_aload_n (pc := 10) h dX7_pass_10 rfl rfl ?_
    refine zf_X7_48 (pc := 11) h gkc_1 dX7_pass_11 ?_
    obtain ⟨x3, μ4, ex3, hf⟩ := zBp_s hf
    refine zm_X7_63 (pc := 14) h gkc_1 ⟨by decide, by decide⟩ (cX7_refuse_ok ex3) rfl (Nat.le_of_ble_eq_true rfl) dX7_pass_14 rfl ?_
    obtain ⟨q5, hf⟩ := zCk_s hf
    exact zr_zret (pc := 17) h (zBoo q5) dX7_pass_17 (zRp hf).1 (zRp hf).2

set_option maxRecDepth 100000 in
set_option maxHeartbeats 4000000 in
theorem fX7_number_n35_ok {l : Launch} {g : gG} {r : Int32} {ν : gM} {K : gKt} (h : gR l g cX7_number RX7 4 (some .int) (gRm 2 42) (some (.int r)) ν K) {μ : gM} (hf : fX7_number_n35 μ = some (r, ν)) : K 35 [some (.ref (g.1 + 1)), none, none, none] [] μ := by
  unfold fX7_number_n35 at hf
  refine zr_aload_n (pc := 35) h dX7_number_35 rfl rfl ?_
  refine zr_iconst (pc := 36) (v := (4 : Int32)) h dX7_number_36 (by decide) ?_
  refine zr_aload_n (pc := 37) h dX7_number_37 rfl rfl ?_
  refine zf_X7_48 (pc := 38) h gkc_1 dX7_number_38 ?_
  obtain ⟨x2, μ3, ex2, hf⟩ := zBp_s hf
  refine zm_X7_63 (pc := 41) h gkc_1 ⟨by decide, by decide⟩ (cX7_refuse_ok ex2) rfl (Nat.le_of_ble_eq_true rfl) dX7_number_41 rfl ?_
  refine zr_pop (pc := 44) h dX7_number_44 rfl ?_
  refine zr_iconst (pc := 45) (v := (-1 : Int32)) h dX7_number_45 (by decide) ?_
  exact zr_iret (pc := 46) h dX7_number_46 (zRp hf).1 (zRp hf).2

set_option maxRecDepth 100000 in
set_option maxHeartbeats 4000000 in
theorem cX7_number_ok {l : Launch} {g : gG} {a1 : Int32} {a2 : Int32} {μ : gM} {r : Int32} {ν : gM} (hf : fX7_number a1 a2 μ = some (r, ν)) : gMet l g yX7_number cX7_number 4 (some .int) 2 42 [.ref (g.1 + 1), .int a1, .int a2] μ (some (.int r)) ν := by
  refine gMet_of (gIni [.ref (g.1 + 1), .int a1, .int a2] ++ List.replicate 1 none) (by decide) (gIni_ok _ _) (Nat.le_of_ble_eq_true rfl) (fun K h => ?_)
  show K 0 [some (.ref (g.1 + 1)), some (.int a1), some (.int a2), none] [] μ
  unfold fX7_number at hf
  refine zr_aload_n (pc := 0) h dX7_number_0 rfl rfl ?_
  refine zf_X7_39 (pc := 1) h gkc_1 dX7_number_1 ?_
  refine zr_iconst (pc := 4) (v := (2 : Int32)) h dX7_number_4 (by decide) ?_
  have hf := zIf_s hf
  refine zr_icmp_eq (pc := 5) (tgt := 20) h dX7_number_5 rfl (fun b9 => ?_) (fun b9 => ?_)
  · have hf := hf.1 b9
    refine zr_aload_n (pc := 20) h dX7_number_20 rfl rfl ?_
    refine zf_X7_57 (pc := 21) h gkc_1 dX7_number_21 ?_
    refine zr_topi h (fun x1 ex1 => ?_)
    have hf := zLt_s ex1 hf
    refine zr_istore_n (pc := 24) h dX7_number_24 rfl (by decide) rfl ?_
    refine zr_iload_n (pc := 25) h dX7_number_25 rfl rfl ?_
    refine zr_iload_n (pc := 26) h dX7_number_26 rfl rfl ?_
    have hf := zIf_s hf
    refine zr_icmp_lt (pc := 27) (tgt := 35) h dX7_number_27 rfl (fun b6 => ?_) (fun b6 => ?_)
    · have hf := hf.1 b6
      exact zr_weak h [true, false, false, false] (fX7_number_n35_ok h hf)
    · have hf := hf.2 b6
      refine zr_iload_n (pc := 30) h dX7_number_30 rfl rfl ?_
      refine zr_iload_n (pc := 31) h dX7_number_31 rfl rfl ?_
      have hf := zIf_s hf
      refine zr_icmp_le (pc := 32) (tgt := 47) h dX7_number_32 rfl (fun b5 => ?_) (fun b5 => ?_)
      · have hf := hf.1 b5
        refine zr_aload_n (pc := 47) h dX7_number_47 rfl rfl ?_
        obtain ⟨μ4, eμ4, hf⟩ := zBd_s hf
        refine zm_X7_45 (pc := 48) h gkc_1 ⟨by decide, by decide⟩ (cX7_advance_ok eμ4) rfl (Nat.le_of_ble_eq_true rfl) dX7_number_48 rfl ?_
        refine zr_iload_n (pc := 51) h dX7_number_51 rfl rfl ?_
        exact zr_iret (pc := 52) h dX7_number_52 (zRp hf).1 (zRp hf).2
      · have hf := hf.2 b5
        exact zr_weak h [true, false, false, false] (fX7_number_n35_ok h hf)
  · have hf := hf.2 b9
    refine zr_aload_n (pc := 8) h dX7_number_8 rfl rfl ?_
    refine zr_iconst (pc := 9) (v := (1 : Int32)) h dX7_number_9 (by decide) ?_
    refine zr_aload_n (pc := 10) h dX7_number_10 rfl rfl ?_
    refine zf_X7_48 (pc := 11) h gkc_1 dX7_number_11 ?_
    obtain ⟨x7, μ8, ex7, hf⟩ := zBp_s hf
    refine zm_X7_63 (pc := 14) h gkc_1 ⟨by decide, by decide⟩ (cX7_refuse_ok ex7) rfl (Nat.le_of_ble_eq_true rfl) dX7_number_14 rfl ?_
    refine zr_pop (pc := 17) h dX7_number_17 rfl ?_
    refine zr_iconst (pc := 18) (v := (-1 : Int32)) h dX7_number_18 (by decide) ?_
    exact zr_iret (pc := 19) h dX7_number_19 (zRp hf).1 (zRp hf).2

set_option maxRecDepth 100000 in
set_option maxHeartbeats 4000000 in
theorem cX7_passIfThere_ok {l : Launch} {g : gG} {a1 : Int32} {μ : gM} {r : Int32} {ν : gM} (hf : fX7_passIfThere a1 μ = some (r, ν)) : gMet l g yX7_passIfThere cX7_passIfThere 2 (some .boolean) 2 42 [.ref (g.1 + 1), .int a1] μ (some (.int r)) ν := by
  refine gMet_of (gIni [.ref (g.1 + 1), .int a1] ++ List.replicate 0 none) (by decide) (gIni_ok _ _) (Nat.le_of_ble_eq_true rfl) (fun K h => ?_)
  show K 0 [some (.ref (g.1 + 1)), some (.int a1)] [] μ
  unfold fX7_passIfThere at hf
  refine zr_aload_n (pc := 0) h dX7_passIfThere_0 rfl rfl ?_
  obtain ⟨x1, ex1, hf⟩ := zBd_s hf
  refine zm_X7_60 (pc := 1) h gkc_1 ⟨by decide, by decide⟩ (cX7_ownWord_ok ex1) rfl (Nat.le_of_ble_eq_true rfl) dX7_passIfThere_1 rfl ?_
  refine zr_iload_n (pc := 4) h dX7_passIfThere_4 rfl rfl ?_
  have hf := zIf_s hf
  refine zr_icmp_eq (pc := 5) (tgt := 10) h dX7_passIfThere_5 rfl (fun b3 => ?_) (fun b3 => ?_)
  · have hf := hf.1 b3
    refine zr_aload_n (pc := 10) h dX7_passIfThere_10 rfl rfl ?_
    obtain ⟨μ2, eμ2, hf⟩ := zBd_s hf
    refine zm_X7_45 (pc := 11) h gkc_1 ⟨by decide, by decide⟩ (cX7_advance_ok eμ2) rfl (Nat.le_of_ble_eq_true rfl) dX7_passIfThere_11 rfl ?_
    refine zr_iconst (pc := 14) (v := (1 : Int32)) h dX7_passIfThere_14 (by decide) ?_
    exact zr_zret (pc := 15) h rfl dX7_passIfThere_15 (zRp hf).1 (zRp hf).2
  · have hf := hf.2 b3
    refine zr_iconst (pc := 8) (v := (0 : Int32)) h dX7_passIfThere_8 (by decide) ?_
    exact zr_zret (pc := 9) h rfl dX7_passIfThere_9 (zRp hf).1 (zRp hf).2

set_option maxRecDepth 100000 in
set_option maxHeartbeats 4000000 in
theorem cX7_known_ok {l : Launch} {g : gG} {p1 : Nat} {a2 : Int32} {μ : gM} {r : Int32} {ν : gM} (h1 : gk p1 = (0, 1)) (hf : fX7_known p1 a2 μ = some (r, ν)) : gMet l g yX7_known cX7_known 4 (some .int) 2 42 [.ref (g.1 + 1), .ref (g.1 + p1), .int a2] μ (some (.int r)) ν := by
  refine gMet_of (gIni [.ref (g.1 + 1), .ref (g.1 + p1), .int a2] ++ List.replicate 1 none) (by decide) (gIni_ok _ _) (Nat.le_of_ble_eq_true rfl) (fun K h => ?_)
  show K 0 [some (.ref (g.1 + 1)), some (.ref (g.1 + p1)), some (.int a2), none] [] μ
  unfold fX7_known at hf
  refine zr_aload_n (pc := 0) h dX7_known_0 rfl rfl ?_
  obtain ⟨x1, ex1, hf⟩ := zBd_s hf
  refine zm_X7_67 (pc := 1) h gkc_1 ⟨by decide, by decide⟩ (cX7_isName_ok ex1) rfl (Nat.le_of_ble_eq_true rfl) dX7_known_1 rfl ?_
  have hf := zIf_s hf
  refine zr_if_ne (pc := 4) (tgt := 19) h dX7_known_4 rfl (fun b9 => ?_) (fun b9 => ?_)
  · have hf := hf.2 b9
    refine zr_aload_n (pc := 19) h dX7_known_19 rfl rfl ?_
    refine zr_iload_n (pc := 20) h dX7_known_20 rfl rfl ?_
    refine zr_aload_n (pc := 21) h dX7_known_21 rfl rfl ?_
    refine zf_X7_57 (pc := 22) h gkc_1 dX7_known_22 ?_
    obtain ⟨x2, ex2, hf⟩ := zBd_s hf
    refine zm_X7_71 (pc := 25) h h1 ⟨by decide, by decide⟩ (cX1_find_ok h1 ex2) rfl (Nat.le_of_ble_eq_true rfl) dX7_known_25 rfl ?_
    refine zr_istore_n (pc := 28) h dX7_known_28 rfl (by decide) rfl ?_
    refine zr_iload_n (pc := 29) h dX7_known_29 rfl rfl ?_
    refine zr_iconst (pc := 30) (v := (-1 : Int32)) h dX7_known_30 (by decide) ?_
    have hf := zIf_s hf
    refine zr_icmp_ne (pc := 31) (tgt := 46) h dX7_known_31 rfl (fun b6 => ?_) (fun b6 => ?_)
    · have hf := hf.2 b6
      refine zr_aload_n (pc := 46) h dX7_known_46 rfl rfl ?_
      obtain ⟨μ3, eμ3, hf⟩ := zBd_s hf
      refine zm_X7_45 (pc := 47) h gkc_1 ⟨by decide, by decide⟩ (cX7_advance_ok eμ3) rfl (Nat.le_of_ble_eq_true rfl) dX7_known_47 rfl ?_
      refine zr_iload_n (pc := 50) h dX7_known_50 rfl rfl ?_
      exact zr_iret (pc := 51) h dX7_known_51 (zRp hf).1 (zRp hf).2
    · have hf := hf.1 b6
      refine zr_aload_n (pc := 34) h dX7_known_34 rfl rfl ?_
      refine zr_iconst (pc := 35) (v := (3 : Int32)) h dX7_known_35 (by decide) ?_
      refine zr_aload_n (pc := 36) h dX7_known_36 rfl rfl ?_
      refine zf_X7_48 (pc := 37) h gkc_1 dX7_known_37 ?_
      obtain ⟨x4, μ5, ex4, hf⟩ := zBp_s hf
      refine zm_X7_63 (pc := 40) h gkc_1 ⟨by decide, by decide⟩ (cX7_refuse_ok ex4) rfl (Nat.le_of_ble_eq_true rfl) dX7_known_40 rfl ?_
      refine zr_pop (pc := 43) h dX7_known_43 rfl ?_
      refine zr_iconst (pc := 44) (v := (-1 : Int32)) h dX7_known_44 (by decide) ?_
      exact zr_iret (pc := 45) h dX7_known_45 (zRp hf).1 (zRp hf).2
  · have hf := hf.1 b9
    refine zr_aload_n (pc := 7) h dX7_known_7 rfl rfl ?_
    refine zr_iconst (pc := 8) (v := (1 : Int32)) h dX7_known_8 (by decide) ?_
    refine zr_aload_n (pc := 9) h dX7_known_9 rfl rfl ?_
    refine zf_X7_48 (pc := 10) h gkc_1 dX7_known_10 ?_
    obtain ⟨x7, μ8, ex7, hf⟩ := zBp_s hf
    refine zm_X7_63 (pc := 13) h gkc_1 ⟨by decide, by decide⟩ (cX7_refuse_ok ex7) rfl (Nat.le_of_ble_eq_true rfl) dX7_known_13 rfl ?_
    refine zr_pop (pc := 16) h dX7_known_16 rfl ?_
    refine zr_iconst (pc := 17) (v := (-1 : Int32)) h dX7_known_17 (by decide) ?_
    exact zr_iret (pc := 18) h dX7_known_18 (zRp hf).1 (zRp hf).2

set_option maxRecDepth 100000 in
set_option maxHeartbeats 4000000 in
theorem cX7_knownMember_ok {l : Launch} {g : gG} {p1 : Nat} {μ : gM} {r : Int32} {ν : gM} (h1 : gk p1 = (0, 1)) (hf : fX7_knownMember p1 μ = some (r, ν)) : gMet l g yX7_knownMember cX7_knownMember 5 (some .int) 3 65 [.ref (g.1 + 1), .ref (g.1 + p1)] μ (some (.int r)) ν := by
  refine gMet_of (gIni [.ref (g.1 + 1), .ref (g.1 + p1)] ++ List.replicate 3 none) (by decide) (gIni_ok _ _) (Nat.le_of_ble_eq_true rfl) (fun K h => ?_)
  show K 0 [some (.ref (g.1 + 1)), some (.ref (g.1 + p1)), none, none, none] [] μ
  unfold fX7_knownMember at hf
  refine zr_aload_n (pc := 0) h dX7_knownMember_0 rfl rfl ?_
  refine zr_aload_n (pc := 1) h dX7_knownMember_1 rfl rfl ?_
  refine zr_iconst (pc := 2) (v := (0 : Int32)) h dX7_knownMember_2 (by decide) ?_
  obtain ⟨x1, μ2, ex1, hf⟩ := zBp_s hf
  refine zm_X7_77 (pc := 3) h gkc_1 ⟨by decide, by decide⟩ (cX7_known_ok h1 ex1) rfl (Nat.le_of_ble_eq_true rfl) dX7_knownMember_3 rfl ?_
  refine zr_istore_n (pc := 6) h dX7_knownMember_6 rfl (by decide) rfl ?_
  refine zr_iload_n (pc := 7) h dX7_knownMember_7 rfl rfl ?_
  refine zr_iconst (pc := 8) (v := (-1 : Int32)) h dX7_knownMember_8 (by decide) ?_
  have hf := zIf_s hf
  refine zr_icmp_eq (pc := 9) (tgt := 21) h dX7_knownMember_9 rfl (fun b14 => ?_) (fun b14 => ?_)
  · have hf := hf.1 b14
    refine zr_iconst (pc := 21) (v := (-1 : Int32)) h dX7_knownMember_21 (by decide) ?_
    exact zr_iret (pc := 22) h dX7_knownMember_22 (zRp hf).1 (zRp hf).2
  · have hf := hf.2 b14
    refine zr_aload_n (pc := 12) h dX7_knownMember_12 rfl rfl ?_
    refine zr_bipush (pc := 13) (v := (8 : Int32)) h dX7_knownMember_13 (by decide) ?_
    obtain ⟨x3, μ4, ex3, hf⟩ := zBp_s hf
    refine zm_X7_81 (pc := 15) h gkc_1 ⟨by decide, by decide⟩ (cX7_pass_ok ex3) rfl (Nat.le_of_ble_eq_true rfl) dX7_knownMember_15 rfl ?_
    have hf := zIf_s hf
    refine zr_if_ne (pc := 18) (tgt := 23) h dX7_knownMember_18 rfl (fun b13 => ?_) (fun b13 => ?_)
    · have hf := hf.2 b13
      refine zr_aload_n (pc := 23) h dX7_knownMember_23 rfl rfl ?_
      refine zf_X7_48 (pc := 24) h gkc_1 dX7_knownMember_24 ?_
      refine zr_topi h (fun x5 ex5 => ?_)
      have hf := zLt_s ex5 hf
      refine zr_istore_n (pc := 27) h dX7_knownMember_27 rfl (by decide) rfl ?_
      refine zr_aload_n (pc := 28) h dX7_knownMember_28 rfl rfl ?_
      refine zr_aload_n (pc := 29) h dX7_knownMember_29 rfl rfl ?_
      refine zr_iconst (pc := 30) (v := (2 : Int32)) h dX7_knownMember_30 (by decide) ?_
      obtain ⟨x6, μ7, ex6, hf⟩ := zBp_s hf
      refine zm_X7_77 (pc := 31) h gkc_1 ⟨by decide, by decide⟩ (cX7_known_ok h1 ex6) rfl (Nat.le_of_ble_eq_true rfl) dX7_knownMember_31 rfl ?_
      refine zr_istore (pc := 34) h dX7_knownMember_34 (by decide) rfl ?_
      refine zr_iload (pc := 36) h dX7_knownMember_36 rfl ?_
      refine zr_iconst (pc := 38) (v := (-1 : Int32)) h dX7_knownMember_38 (by decide) ?_
      have hf := zIf_s hf
      refine zr_icmp_ne (pc := 39) (tgt := 44) h dX7_knownMember_39 rfl (fun b12 => ?_) (fun b12 => ?_)
      · have hf := hf.2 b12
        refine zr_aload_n (pc := 44) h dX7_knownMember_44 rfl rfl ?_
        refine zr_iload (pc := 45) h dX7_knownMember_45 rfl ?_
        refine zr_iload_n (pc := 47) h dX7_knownMember_47 rfl rfl ?_
        obtain ⟨x8, ex8, hf⟩ := zBd_s hf
        refine zm_X7_85 (pc := 48) h h1 ⟨by decide, by decide⟩ (cX1_isMember_ok h1 ex8) rfl (Nat.le_of_ble_eq_true rfl) dX7_knownMember_48 rfl ?_
        have hf := zIf_s hf
        refine zr_if_ne (pc := 51) (tgt := 63) h dX7_knownMember_51 rfl (fun b11 => ?_) (fun b11 => ?_)
        · have hf := hf.2 b11
          refine zr_iload (pc := 63) h dX7_knownMember_63 rfl ?_
          refine zr_bipush (pc := 65) (v := (6 : Int32)) h dX7_knownMember_65 (by decide) ?_
          refine zr_imul (pc := 67) h dX7_knownMember_67 ?_
          refine zr_iload_n (pc := 68) h dX7_knownMember_68 rfl rfl ?_
          refine zr_iadd (pc := 69) h dX7_knownMember_69 ?_
          exact zr_iret (pc := 70) h dX7_knownMember_70 (zRp hf).1 (zRp hf).2
        · have hf := hf.1 b11
          refine zr_aload_n (pc := 54) h dX7_knownMember_54 rfl rfl ?_
          refine zr_iconst (pc := 55) (v := (5 : Int32)) h dX7_knownMember_55 (by decide) ?_
          refine zr_iload_n (pc := 56) h dX7_knownMember_56 rfl rfl ?_
          obtain ⟨x9, μ10, ex9, hf⟩ := zBp_s hf
          refine zm_X7_63 (pc := 57) h gkc_1 ⟨by decide, by decide⟩ (cX7_refuse_ok ex9) rfl (Nat.le_of_ble_eq_true rfl) dX7_knownMember_57 rfl ?_
          refine zr_pop (pc := 60) h dX7_knownMember_60 rfl ?_
          refine zr_iconst (pc := 61) (v := (-1 : Int32)) h dX7_knownMember_61 (by decide) ?_
          exact zr_iret (pc := 62) h dX7_knownMember_62 (zRp hf).1 (zRp hf).2
      · have hf := hf.1 b12
        refine zr_iconst (pc := 42) (v := (-1 : Int32)) h dX7_knownMember_42 (by decide) ?_
        exact zr_iret (pc := 43) h dX7_knownMember_43 (zRp hf).1 (zRp hf).2
    · have hf := hf.1 b13
      refine zr_iconst (pc := 21) (v := (-1 : Int32)) h dX7_knownMember_21 (by decide) ?_
      exact zr_iret (pc := 22) h dX7_knownMember_22 (zRp hf).1 (zRp hf).2

set_option maxRecDepth 100000 in
set_option maxHeartbeats 4000000 in
theorem cX7_passStop_ok {l : Launch} {g : gG} {μ : gM} {r : Int32} {ν : gM} (hf : fX7_passStop μ = some (r, ν)) : gMet l g yX7_passStop cX7_passStop 1 (some .boolean) 2 42 [.ref (g.1 + 1)] μ (some (.int r)) ν := by
  refine gMet_of (gIni [.ref (g.1 + 1)] ++ List.replicate 0 none) (by decide) (gIni_ok _ _) (Nat.le_of_ble_eq_true rfl) (fun K h => ?_)
  show K 0 [some (.ref (g.1 + 1))] [] μ
  unfold fX7_passStop at hf
  refine zr_aload_n (pc := 0) h dX7_passStop_0 rfl rfl ?_
  refine zf_X7_39 (pc := 1) h gkc_1 dX7_passStop_1 ?_
  refine zr_iconst (pc := 4) (v := (3 : Int32)) h dX7_passStop_4 (by decide) ?_
  have hf := zIf_s hf
  refine zr_icmp_eq (pc := 5) (tgt := 18) h dX7_passStop_5 rfl (fun b5 => ?_) (fun b5 => ?_)
  · have hf := hf.1 b5
    refine zr_aload_n (pc := 18) h dX7_passStop_18 rfl rfl ?_
    obtain ⟨μ1, eμ1, hf⟩ := zBd_s hf
    refine zm_X7_45 (pc := 19) h gkc_1 ⟨by decide, by decide⟩ (cX7_advance_ok eμ1) rfl (Nat.le_of_ble_eq_true rfl) dX7_passStop_19 rfl ?_
    refine zr_iconst (pc := 22) (v := (1 : Int32)) h dX7_passStop_22 (by decide) ?_
    exact zr_zret (pc := 23) h rfl dX7_passStop_23 (zRp hf).1 (zRp hf).2
  · have hf := hf.2 b5
    refine zr_aload_n (pc := 8) h dX7_passStop_8 rfl rfl ?_
    refine zr_iconst (pc := 9) (v := (1 : Int32)) h dX7_passStop_9 (by decide) ?_
    refine zr_aload_n (pc := 10) h dX7_passStop_10 rfl rfl ?_
    refine zf_X7_48 (pc := 11) h gkc_1 dX7_passStop_11 ?_
    obtain ⟨x2, μ3, ex2, hf⟩ := zBp_s hf
    refine zm_X7_63 (pc := 14) h gkc_1 ⟨by decide, by decide⟩ (cX7_refuse_ok ex2) rfl (Nat.le_of_ble_eq_true rfl) dX7_passStop_14 rfl ?_
    obtain ⟨q4, hf⟩ := zCk_s hf
    exact zr_zret (pc := 17) h (zBoo q4) dX7_passStop_17 (zRp hf).1 (zRp hf).2

set_option maxRecDepth 100000 in
set_option maxHeartbeats 4000000 in
theorem cX7_isStop_ok {l : Launch} {g : gG} {μ : gM} {r : Int32} (hf : fX7_isStop μ = some r) : gMet l g yX7_isStop cX7_isStop 1 (some .boolean) 0 0 [.ref (g.1 + 1)] μ (some (.int r)) μ := by
  refine gMet_of (gIni [.ref (g.1 + 1)] ++ List.replicate 0 none) (by decide) (gIni_ok _ _) (Nat.le_of_ble_eq_true rfl) (fun K h => ?_)
  show K 0 [some (.ref (g.1 + 1))] [] μ
  unfold fX7_isStop at hf
  refine zr_aload_n (pc := 0) h dX7_isStop_0 rfl rfl ?_
  refine zf_X7_39 (pc := 1) h gkc_1 dX7_isStop_1 ?_
  refine zr_iconst (pc := 4) (v := (3 : Int32)) h dX7_isStop_4 (by decide) ?_
  have hf := zIf_s hf
  refine zr_icmp_ne (pc := 5) (tgt := 12) h dX7_isStop_5 rfl (fun b1 => ?_) (fun b1 => ?_)
  · have hf := hf.2 b1
    refine zr_iconst (pc := 12) (v := (0 : Int32)) h dX7_isStop_12 (by decide) ?_
    exact zr_zret (pc := 13) h rfl dX7_isStop_13 (zRi hf) rfl
  · have hf := hf.1 b1
    refine zr_iconst (pc := 8) (v := (1 : Int32)) h dX7_isStop_8 (by decide) ?_
    refine zr_goto (pc := 9) (tgt := 13) h dX7_isStop_9 rfl ?_
    exact zr_zret (pc := 13) h rfl dX7_isStop_13 (zRi hf) rfl

set_option maxRecDepth 100000 in
set_option maxHeartbeats 4000000 in
theorem fX7_append_l3_ok {l : Launch} {g : gG} {ν : gM} {K : gKt} (h : gR l g cX7_append RX7 3 none (gRm 0 0) none ν K) : ∀ (n : Nat) (y1 : Int32) (y2 : Int32) (μ : gM), fX7_append_l3 n y1 y2 μ = some ν → K 3 [some (.ref (g.1 + 1)), some (.int y1), some (.int y2)] [] μ := by
  intro n
  induction n with
  | zero =>
    intro y1 y2 μ hf
    cases (show (none : Option gM) = some _ from hf)
  | succ n ih =>
    intro y1 y2 μ hf
    unfold fX7_append_l3 at hf
    refine zr_iload_n (pc := 3) h dX7_append_3 rfl rfl ?_
    have hf := zIf_s hf
    refine zr_if_lt (pc := 4) (tgt := 49) h dX7_append_4 rfl (fun b6 => ?_) (fun b6 => ?_)
    · have hf := hf.1 b6
      exact zr_vret (pc := 49) h dX7_append_49 rfl (zRv hf)
    · have hf := hf.2 b6
      refine zr_aload_n (pc := 7) h dX7_append_7 rfl rfl ?_
      refine zf_X7_34 (pc := 8) h gkc_1 dX7_append_8 ?_
      refine zr_sipush (pc := 11) (v := (1500 : Int32)) h dX7_append_11 (by decide) ?_
      have hf := zIf_s hf
      refine zr_icmp_ge (pc := 14) (tgt := 49) h dX7_append_14 rfl (fun b5 => ?_) (fun b5 => ?_)
      · have hf := hf.1 b5
        exact zr_vret (pc := 49) h dX7_append_49 rfl (zRv hf)
      · have hf := hf.2 b5
        refine zr_aload_n (pc := 17) h dX7_append_17 rfl rfl ?_
        refine zf_X7_9 (pc := 18) h gkc_1 dX7_append_18 ?_
        refine zr_aload_n (pc := 21) h dX7_append_21 rfl rfl ?_
        refine zf_X7_34 (pc := 22) h gkc_1 dX7_append_22 ?_
        refine zr_iload_n (pc := 25) h dX7_append_25 rfl rfl ?_
        refine zr_iload_n (pc := 26) h dX7_append_26 rfl rfl ?_
        refine zr_ishr (pc := 27) h dX7_append_27 ?_
        refine zr_sipush (pc := 28) (v := (255 : Int32)) h dX7_append_28 (by decide) ?_
        refine zr_iand (pc := 31) h dX7_append_31 ?_
        obtain ⟨q1, hf⟩ := zCk_s hf
        refine zr_iast (pc := 32) h gkc_2 q1 rfl dX7_append_32 ?_
        refine zr_mu h (fun μ2 eμ2 => ?_)
        have hf := zLt_s eμ2 hf
        refine zr_aload_n (pc := 33) h dX7_append_33 rfl rfl ?_
        refine zr_dup (pc := 34) h dX7_append_34 rfl ?_
        refine zf_X7_34 (pc := 35) h gkc_1 dX7_append_35 ?_
        refine zr_iconst (pc := 38) (v := (1 : Int32)) h dX7_append_38 (by decide) ?_
        refine zr_iadd (pc := 39) h dX7_append_39 ?_
        refine zp_X7_34 (pc := 40) h gkc_1 dX7_append_40 ?_
        refine zr_mu h (fun μ3 eμ3 => ?_)
        have hf := zLt_s eμ3 hf
        refine zr_iincx (pc := 43) h dX7_append_43 rfl (by decide) rfl (c := (-8 : Int32)) (by decide) (fun x4 ex4 => ?_)
        have hf := zLt_s ex4 hf
        refine zr_goto (pc := 46) (tgt := 3) h dX7_append_46 rfl ?_
        exact zr_weak h [true, true, true] (ih _ _ _ hf)

set_option maxRecDepth 100000 in
set_option maxHeartbeats 4000000 in
theorem cX7_append_ok {l : Launch} {g : gG} {a1 : Int32} {μ : gM} {ν : gM} (hf : fX7_append a1 μ = some ν) : gMet l g yX7_append cX7_append 3 none 0 0 [.ref (g.1 + 1), .int a1] μ none ν := by
  refine gMet_of (gIni [.ref (g.1 + 1), .int a1] ++ List.replicate 1 none) (by decide) (gIni_ok _ _) (Nat.le_of_ble_eq_true rfl) (fun K h => ?_)
  show K 0 [some (.ref (g.1 + 1)), some (.int a1), none] [] μ
  unfold fX7_append at hf
  refine zr_bipush (pc := 0) (v := (24 : Int32)) h dX7_append_0 (by decide) ?_
  refine zr_istore_n (pc := 2) h dX7_append_2 rfl (by decide) rfl ?_
  exact zr_weak h [true, true, true] (fX7_append_l3_ok h 100000 _ _ _ hf)

