set_option maxRecDepth 100000 in
set_option maxHeartbeats 4000000 in
theorem cX12_isIn_ok {l : Launch} {g : gG} {a1 : Int64} {a2 : Int64} {a3 : Int64} {μ : gM} {r : Int32} (hf : fX12_isIn a1 a2 a3 μ = some r) : gMet l g yX12_isIn cX12_isIn 6 (some .boolean) 0 0 [.long a1, .long a2, .long a3] μ (some (.int r)) μ := by
  refine gMet_of (gIni [.long a1, .long a2, .long a3] ++ List.replicate 0 none) (by decide) (gIni_ok _ _) (Nat.le_of_ble_eq_true rfl) (fun K h => ?_)
  show K 0 [some (.long a1), none, some (.long a2), none, some (.long a3), none] [] μ
  unfold fX12_isIn at hf
  refine zr_lload_n (pc := 0) h dX12_isIn_0 rfl rfl ?_
  refine zr_lload_n (pc := 1) h dX12_isIn_1 rfl rfl ?_
  refine zr_lcmp (pc := 2) h dX12_isIn_2 ?_
  have hf := zIf_s hf
  refine zr_if_lt (pc := 3) (tgt := 17) h dX12_isIn_3 rfl (fun b2 => ?_) (fun b2 => ?_)
  · have hf := hf.1 b2
    refine zr_iconst (pc := 17) (v := (0 : Int32)) h dX12_isIn_17 (by decide) ?_
    exact zr_zret (pc := 18) h rfl dX12_isIn_18 (zRi hf) rfl
  · have hf := hf.2 b2
    refine zr_lload_n (pc := 6) h dX12_isIn_6 rfl rfl ?_
    refine zr_lload (pc := 7) h dX12_isIn_7 rfl ?_
    refine zr_lcmp (pc := 9) h dX12_isIn_9 ?_
    have hf := zIf_s hf
    refine zr_if_gt (pc := 10) (tgt := 17) h dX12_isIn_10 rfl (fun b1 => ?_) (fun b1 => ?_)
    · have hf := hf.1 b1
      refine zr_iconst (pc := 17) (v := (0 : Int32)) h dX12_isIn_17 (by decide) ?_
      exact zr_zret (pc := 18) h rfl dX12_isIn_18 (zRi hf) rfl
    · have hf := hf.2 b1
      refine zr_iconst (pc := 13) (v := (1 : Int32)) h dX12_isIn_13 (by decide) ?_
      refine zr_goto (pc := 14) (tgt := 18) h dX12_isIn_14 rfl ?_
      exact zr_zret (pc := 18) h rfl dX12_isIn_18 (zRi hf) rfl

set_option maxRecDepth 100000 in
set_option maxHeartbeats 4000000 in
theorem cX12_flag_ok {l : Launch} {g : gG} {a1 : Int32} {μ : gM} {r : Int32} (hf : fX12_flag a1 μ = some r) : gMet l g yX12_flag cX12_flag 1 (some .int) 0 0 [.int a1] μ (some (.int r)) μ := by
  refine gMet_of (gIni [.int a1] ++ List.replicate 0 none) (by decide) (gIni_ok _ _) (Nat.le_of_ble_eq_true rfl) (fun K h => ?_)
  show K 0 [some (.int a1)] [] μ
  unfold fX12_flag at hf
  refine zr_iload_n (pc := 0) h dX12_flag_0 rfl rfl ?_
  have hf := zIf_s hf
  refine zr_if_eq (pc := 1) (tgt := 8) h dX12_flag_1 rfl (fun b1 => ?_) (fun b1 => ?_)
  · have hf := hf.1 b1
    refine zr_iconst (pc := 8) (v := (0 : Int32)) h dX12_flag_8 (by decide) ?_
    exact zr_iret (pc := 9) h dX12_flag_9 (zRi hf) rfl
  · have hf := hf.2 b1
    refine zr_iconst (pc := 4) (v := (1 : Int32)) h dX12_flag_4 (by decide) ?_
    refine zr_goto (pc := 5) (tgt := 9) h dX12_flag_5 rfl ?_
    exact zr_iret (pc := 9) h dX12_flag_9 (zRi hf) rfl

set_option maxRecDepth 100000 in
set_option maxHeartbeats 4000000 in
theorem cX12_isOf_ok {l : Launch} {g : gG} {a1 : Int32} {a2 : Int32} {μ : gM} {r : Int32} (hf : fX12_isOf a1 a2 μ = some r) : gMet l g yX12_isOf cX12_isOf 2 (some .boolean) 0 0 [.int a1, .int a2] μ (some (.int r)) μ := by
  refine gMet_of (gIni [.int a1, .int a2] ++ List.replicate 0 none) (by decide) (gIni_ok _ _) (Nat.le_of_ble_eq_true rfl) (fun K h => ?_)
  show K 0 [some (.int a1), some (.int a2)] [] μ
  unfold fX12_isOf at hf
  refine zr_iload_n (pc := 0) h dX12_isOf_0 rfl rfl ?_
  refine zr_iload_n (pc := 1) h dX12_isOf_1 rfl rfl ?_
  refine zr_ishr (pc := 2) h dX12_isOf_2 ?_
  refine zr_iconst (pc := 3) (v := (1 : Int32)) h dX12_isOf_3 (by decide) ?_
  refine zr_iand (pc := 4) h dX12_isOf_4 ?_
  refine zr_iconst (pc := 5) (v := (1 : Int32)) h dX12_isOf_5 (by decide) ?_
  have hf := zIf_s hf
  refine zr_icmp_ne (pc := 6) (tgt := 13) h dX12_isOf_6 rfl (fun b1 => ?_) (fun b1 => ?_)
  · have hf := hf.2 b1
    refine zr_iconst (pc := 13) (v := (0 : Int32)) h dX12_isOf_13 (by decide) ?_
    exact zr_zret (pc := 14) h rfl dX12_isOf_14 (zRi hf) rfl
  · have hf := hf.1 b1
    refine zr_iconst (pc := 9) (v := (1 : Int32)) h dX12_isOf_9 (by decide) ?_
    refine zr_goto (pc := 10) (tgt := 14) h dX12_isOf_10 rfl ?_
    exact zr_zret (pc := 14) h rfl dX12_isOf_14 (zRi hf) rfl

set_option maxRecDepth 100000 in
set_option maxHeartbeats 4000000 in
theorem cX12_greater_ok {l : Launch} {g : gG} {a1 : Int32} {a2 : Int32} {μ : gM} {r : Int32} (hf : fX12_greater a1 a2 μ = some r) : gMet l g yX12_greater cX12_greater 2 (some .int) 0 0 [.int a1, .int a2] μ (some (.int r)) μ := by
  refine gMet_of (gIni [.int a1, .int a2] ++ List.replicate 0 none) (by decide) (gIni_ok _ _) (Nat.le_of_ble_eq_true rfl) (fun K h => ?_)
  show K 0 [some (.int a1), some (.int a2)] [] μ
  unfold fX12_greater at hf
  refine zr_iload_n (pc := 0) h dX12_greater_0 rfl rfl ?_
  refine zr_iload_n (pc := 1) h dX12_greater_1 rfl rfl ?_
  have hf := zIf_s hf
  refine zr_icmp_le (pc := 2) (tgt := 9) h dX12_greater_2 rfl (fun b1 => ?_) (fun b1 => ?_)
  · have hf := hf.1 b1
    refine zr_iload_n (pc := 9) h dX12_greater_9 rfl rfl ?_
    exact zr_iret (pc := 10) h dX12_greater_10 (zRi hf) rfl
  · have hf := hf.2 b1
    refine zr_iload_n (pc := 5) h dX12_greater_5 rfl rfl ?_
    refine zr_goto (pc := 6) (tgt := 10) h dX12_greater_6 rfl ?_
    exact zr_iret (pc := 10) h dX12_greater_10 (zRi hf) rfl

set_option maxRecDepth 100000 in
set_option maxHeartbeats 4000000 in
theorem cX12_lesser_ok {l : Launch} {g : gG} {a1 : Int32} {a2 : Int32} {μ : gM} {r : Int32} (hf : fX12_lesser a1 a2 μ = some r) : gMet l g yX12_lesser cX12_lesser 2 (some .int) 0 0 [.int a1, .int a2] μ (some (.int r)) μ := by
  refine gMet_of (gIni [.int a1, .int a2] ++ List.replicate 0 none) (by decide) (gIni_ok _ _) (Nat.le_of_ble_eq_true rfl) (fun K h => ?_)
  show K 0 [some (.int a1), some (.int a2)] [] μ
  unfold fX12_lesser at hf
  refine zr_iload_n (pc := 0) h dX12_lesser_0 rfl rfl ?_
  refine zr_iload_n (pc := 1) h dX12_lesser_1 rfl rfl ?_
  have hf := zIf_s hf
  refine zr_icmp_ge (pc := 2) (tgt := 9) h dX12_lesser_2 rfl (fun b1 => ?_) (fun b1 => ?_)
  · have hf := hf.1 b1
    refine zr_iload_n (pc := 9) h dX12_lesser_9 rfl rfl ?_
    exact zr_iret (pc := 10) h dX12_lesser_10 (zRi hf) rfl
  · have hf := hf.2 b1
    refine zr_iload_n (pc := 5) h dX12_lesser_5 rfl rfl ?_
    refine zr_goto (pc := 6) (tgt := 10) h dX12_lesser_6 rfl ?_
    exact zr_iret (pc := 10) h dX12_lesser_10 (zRi hf) rfl

set_option maxRecDepth 100000 in
set_option maxHeartbeats 4000000 in
theorem fX12_puts_l3_ok {l : Launch} {g : gG} {ν : gM} {K : gKt} (h : gR l g cX12_puts RX12 3 none (gRm 0 0) none ν K) : ∀ (n : Nat) (y1 : Int32) (y2 : Int32) (μ : gM), fX12_puts_l3 n y1 y2 μ = some ν → K 3 [some (.ref (g.1 + 267)), some (.int y1), some (.int y2)] [] μ := by
  intro n
  induction n with
  | zero =>
    intro y1 y2 μ hf
    cases (show (none : Option gM) = some _ from hf)
  | succ n ih =>
    intro y1 y2 μ hf
    unfold fX12_puts_l3 at hf
    refine zr_iload_n (pc := 3) h dX12_puts_3 rfl rfl ?_
    have hf := zIf_s hf
    refine zr_if_lt (pc := 4) (tgt := 36) h dX12_puts_4 rfl (fun b5 => ?_) (fun b5 => ?_)
    · have hf := hf.1 b5
      exact zr_vret (pc := 36) h dX12_puts_36 rfl (zRv hf)
    · have hf := hf.2 b5
      refine zr_aload_n (pc := 7) h dX12_puts_7 rfl rfl ?_
      refine zf_X12_7 (pc := 8) h gkc_267 dX12_puts_8 ?_
      refine zr_aload_n (pc := 11) h dX12_puts_11 rfl rfl ?_
      refine zf_X12_49 (pc := 12) h gkc_267 dX12_puts_12 ?_
      refine zr_iload_n (pc := 15) h dX12_puts_15 rfl rfl ?_
      refine zr_iload_n (pc := 16) h dX12_puts_16 rfl rfl ?_
      refine zr_ishr (pc := 17) h dX12_puts_17 ?_
      refine zr_i2b (pc := 18) h dX12_puts_18 ?_
      obtain ⟨q1, hf⟩ := zCk_s hf
      refine zr_bast (pc := 19) h gkc_268 q1 rfl (vp_nar_b _) dX12_puts_19 ?_
      refine zr_mu h (fun μ2 eμ2 => ?_)
      have hf := zLt_s eμ2 hf
      refine zr_aload_n (pc := 20) h dX12_puts_20 rfl rfl ?_
      refine zr_dup (pc := 21) h dX12_puts_21 rfl ?_
      refine zf_X12_49 (pc := 22) h gkc_267 dX12_puts_22 ?_
      refine zr_iconst (pc := 25) (v := (1 : Int32)) h dX12_puts_25 (by decide) ?_
      refine zr_iadd (pc := 26) h dX12_puts_26 ?_
      refine zp_X12_49 (pc := 27) h gkc_267 dX12_puts_27 ?_
      refine zr_mu h (fun μ3 eμ3 => ?_)
      have hf := zLt_s eμ3 hf
      refine zr_iincx (pc := 30) h dX12_puts_30 rfl (by decide) rfl (c := (-8 : Int32)) (by decide) (fun x4 ex4 => ?_)
      have hf := zLt_s ex4 hf
      refine zr_goto (pc := 33) (tgt := 3) h dX12_puts_33 rfl ?_
      exact zr_weak h [true, true, true] (ih _ _ _ hf)

set_option maxRecDepth 100000 in
set_option maxHeartbeats 4000000 in
theorem cX12_puts_ok {l : Launch} {g : gG} {a1 : Int32} {μ : gM} {ν : gM} (hf : fX12_puts a1 μ = some ν) : gMet l g yX12_puts cX12_puts 3 none 0 0 [.ref (g.1 + 267), .int a1] μ none ν := by
  refine gMet_of (gIni [.ref (g.1 + 267), .int a1] ++ List.replicate 1 none) (by decide) (gIni_ok _ _) (Nat.le_of_ble_eq_true rfl) (fun K h => ?_)
  show K 0 [some (.ref (g.1 + 267)), some (.int a1), none] [] μ
  unfold fX12_puts at hf
  refine zr_bipush (pc := 0) (v := (24 : Int32)) h dX12_puts_0 (by decide) ?_
  refine zr_istore_n (pc := 2) h dX12_puts_2 rfl (by decide) rfl ?_
  exact zr_weak h [true, true, true] (fX12_puts_l3_ok h 100000 _ _ _ hf)

set_option maxRecDepth 100000 in
set_option maxHeartbeats 4000000 in
theorem cX12_feed_ok {l : Launch} {g : gG} {a1 : Int32} {a2 : Int32} {a3 : Int32} {a4 : Int32} {a5 : Int32} {μ : gM} {r : Int32} {ν : gM} (hf : fX12_feed a1 a2 a3 a4 a5 μ = some (r, ν)) : gMet l g yX12_feed cX12_feed 6 (some .int) 1 22 [.ref (g.1 + 267), .int a1, .int a2, .int a3, .int a4, .int a5] μ (some (.int r)) ν := by
  refine gMet_of (gIni [.ref (g.1 + 267), .int a1, .int a2, .int a3, .int a4, .int a5] ++ List.replicate 0 none) (by decide) (gIni_ok _ _) (Nat.le_of_ble_eq_true rfl) (fun K h => ?_)
  show K 0 [some (.ref (g.1 + 267)), some (.int a1), some (.int a2), some (.int a3), some (.int a4), some (.int a5)] [] μ
  unfold fX12_feed at hf
  refine zr_aload_n (pc := 0) h dX12_feed_0 rfl rfl ?_
  refine zr_iconst (pc := 1) (v := (0 : Int32)) h dX12_feed_1 (by decide) ?_
  refine zp_X12_46 (pc := 2) h gkc_267 dX12_feed_2 ?_
  refine zr_mu h (fun μ1 eμ1 => ?_)
  have hf := zLt_s eμ1 hf
  refine zr_aload_n (pc := 5) h dX12_feed_5 rfl rfl ?_
  refine zf_X12_49 (pc := 6) h gkc_267 dX12_feed_6 ?_
  refine zr_bipush (pc := 9) (v := (20 : Int32)) h dX12_feed_9 (by decide) ?_
  refine zr_iadd (pc := 11) h dX12_feed_11 ?_
  refine zr_sipush (pc := 12) (v := (1500 : Int32)) h dX12_feed_12 (by decide) ?_
  have hf := zIf_s hf
  refine zr_icmp_le (pc := 15) (tgt := 20) h dX12_feed_15 rfl (fun b7 => ?_) (fun b7 => ?_)
  · have hf := hf.1 b7
    refine zr_aload_n (pc := 20) h dX12_feed_20 rfl rfl ?_
    refine zr_iload_n (pc := 21) h dX12_feed_21 rfl rfl ?_
    obtain ⟨μ2, eμ2, hf⟩ := zBd_s hf
    refine zm_X12_52 (pc := 22) h gkc_267 ⟨by decide, by decide⟩ (cX12_puts_ok eμ2) rfl (Nat.le_of_ble_eq_true rfl) dX12_feed_22 rfl ?_
    refine zr_aload_n (pc := 25) h dX12_feed_25 rfl rfl ?_
    refine zr_iload_n (pc := 26) h dX12_feed_26 rfl rfl ?_
    obtain ⟨μ3, eμ3, hf⟩ := zBd_s hf
    refine zm_X12_52 (pc := 27) h gkc_267 ⟨by decide, by decide⟩ (cX12_puts_ok eμ3) rfl (Nat.le_of_ble_eq_true rfl) dX12_feed_27 rfl ?_
    refine zr_aload_n (pc := 30) h dX12_feed_30 rfl rfl ?_
    refine zr_iload_n (pc := 31) h dX12_feed_31 rfl rfl ?_
    obtain ⟨μ4, eμ4, hf⟩ := zBd_s hf
    refine zm_X12_52 (pc := 32) h gkc_267 ⟨by decide, by decide⟩ (cX12_puts_ok eμ4) rfl (Nat.le_of_ble_eq_true rfl) dX12_feed_32 rfl ?_
    refine zr_aload_n (pc := 35) h dX12_feed_35 rfl rfl ?_
    refine zr_iload (pc := 36) h dX12_feed_36 rfl ?_
    obtain ⟨μ5, eμ5, hf⟩ := zBd_s hf
    refine zm_X12_52 (pc := 38) h gkc_267 ⟨by decide, by decide⟩ (cX12_puts_ok eμ5) rfl (Nat.le_of_ble_eq_true rfl) dX12_feed_38 rfl ?_
    refine zr_aload_n (pc := 41) h dX12_feed_41 rfl rfl ?_
    refine zr_iload (pc := 42) h dX12_feed_42 rfl ?_
    obtain ⟨μ6, eμ6, hf⟩ := zBd_s hf
    refine zm_X12_52 (pc := 44) h gkc_267 ⟨by decide, by decide⟩ (cX12_puts_ok eμ6) rfl (Nat.le_of_ble_eq_true rfl) dX12_feed_44 rfl ?_
    refine zr_aload_n (pc := 47) h dX12_feed_47 rfl rfl ?_
    refine zf_X12_49 (pc := 48) h gkc_267 dX12_feed_48 ?_
    exact zr_iret (pc := 51) h dX12_feed_51 (zRp hf).1 (zRp hf).2
  · have hf := hf.2 b7
    refine zr_iconst (pc := 18) (v := (-1 : Int32)) h dX12_feed_18 (by decide) ?_
    exact zr_iret (pc := 19) h dX12_feed_19 (zRp hf).1 (zRp hf).2

set_option maxRecDepth 100000 in
set_option maxHeartbeats 4000000 in
theorem cX12_end_ok {l : Launch} {g : gG} {a1 : Int32} {μ : gM} {r : Int32} {ν : gM} (hf : fX12_end a1 μ = some (r, ν)) : gMet l g yX12_end cX12_end 2 (some .boolean) 1 25 [.ref (g.1 + 267), .int a1] μ (some (.int r)) ν := by
  refine gMet_of (gIni [.ref (g.1 + 267), .int a1] ++ List.replicate 0 none) (by decide) (gIni_ok _ _) (Nat.le_of_ble_eq_true rfl) (fun K h => ?_)
  show K 0 [some (.ref (g.1 + 267)), some (.int a1)] [] μ
  unfold fX12_end at hf
  refine zr_aload_n (pc := 0) h dX12_end_0 rfl rfl ?_
  refine zr_iconst (pc := 1) (v := (0 : Int32)) h dX12_end_1 (by decide) ?_
  refine zp_X12_46 (pc := 2) h gkc_267 dX12_end_2 ?_
  refine zr_mu h (fun μ1 eμ1 => ?_)
  have hf := zLt_s eμ1 hf
  refine zr_iload_n (pc := 5) h dX12_end_5 rfl rfl ?_
  refine zr_i2l (pc := 6) h dX12_end_6 ?_
  refine zr_lconst (pc := 7) (v := (0 : Int64)) h dX12_end_7 (by decide) ?_
  refine zr_aload_n (pc := 8) h dX12_end_8 rfl rfl ?_
  refine zf_X12_49 (pc := 9) h gkc_267 dX12_end_9 ?_
  refine zr_i2l (pc := 12) h dX12_end_12 ?_
  obtain ⟨x2, ex2, hf⟩ := zBd_s hf
  refine zm_X12_56 (pc := 13) h ⟨by decide, by decide⟩ (cX12_isIn_ok ex2) rfl (Nat.le_of_ble_eq_true rfl) dX12_end_13 rfl ?_
  have hf := zIf_s hf
  refine zr_if_ne (pc := 16) (tgt := 21) h dX12_end_16 rfl (fun b4 => ?_) (fun b4 => ?_)
  · have hf := hf.2 b4
    refine zr_aload_n (pc := 21) h dX12_end_21 rfl rfl ?_
    refine zr_iload_n (pc := 22) h dX12_end_22 rfl rfl ?_
    refine zp_X12_49 (pc := 23) h gkc_267 dX12_end_23 ?_
    refine zr_mu h (fun μ3 eμ3 => ?_)
    have hf := zLt_s eμ3 hf
    refine zr_iconst (pc := 26) (v := (1 : Int32)) h dX12_end_26 (by decide) ?_
    exact zr_zret (pc := 27) h rfl dX12_end_27 (zRp hf).1 (zRp hf).2
  · have hf := hf.1 b4
    refine zr_iconst (pc := 19) (v := (0 : Int32)) h dX12_end_19 (by decide) ?_
    exact zr_zret (pc := 20) h rfl dX12_end_20 (zRp hf).1 (zRp hf).2

set_option maxRecDepth 100000 in
set_option maxHeartbeats 4000000 in
theorem fX12_isOwn_n72_ok {l : Launch} {g : gG} {r : Int32} {μe : gM} {K : gKt} (h : gR l g cX12_isOwn RX12 2 (some .boolean) (gRm 0 0) (some (.int r)) μe K) {y0 : Int32} {z0 : Int32} (hf : fX12_isOwn_n72 y0 z0 μe = some r) : K 72 [some (.int y0), none] [.int z0] μe := by
  unfold fX12_isOwn_n72 at hf
  refine zr_istore_n (pc := 72) h dX12_isOwn_72 rfl (by decide) rfl ?_
  refine zr_iload_n (pc := 73) h dX12_isOwn_73 rfl rfl ?_
  have hf := zIf_s hf
  refine zr_if_ne (pc := 74) (tgt := 139) h dX12_isOwn_74 rfl (fun b11 => ?_) (fun b11 => ?_)
  · have hf := hf.2 b11
    refine zr_iconst (pc := 139) (v := (1 : Int32)) h dX12_isOwn_139 (by decide) ?_
    refine zr_goto (pc := 140) (tgt := 144) h dX12_isOwn_140 rfl ?_
    exact zr_zret (pc := 144) h rfl dX12_isOwn_144 (zRi hf) rfl
  · have hf := hf.1 b11
    refine zr_iload_n (pc := 77) h dX12_isOwn_77 rfl rfl ?_
    refine zr_ldc (pc := 78) h zw_1502 dX12_isOwn_78 ?_
    have hf := zIf_s hf
    refine zr_icmp_eq (pc := 80) (tgt := 139) h dX12_isOwn_80 rfl (fun b10 => ?_) (fun b10 => ?_)
    · have hf := hf.1 b10
      refine zr_iconst (pc := 139) (v := (1 : Int32)) h dX12_isOwn_139 (by decide) ?_
      refine zr_goto (pc := 140) (tgt := 144) h dX12_isOwn_140 rfl ?_
      exact zr_zret (pc := 144) h rfl dX12_isOwn_144 (zRi hf) rfl
    · have hf := hf.2 b10
      refine zr_iload_n (pc := 83) h dX12_isOwn_83 rfl rfl ?_
      refine zr_bipush (pc := 84) (v := (89 : Int32)) h dX12_isOwn_84 (by decide) ?_
      have hf := zIf_s hf
      refine zr_icmp_eq (pc := 86) (tgt := 139) h dX12_isOwn_86 rfl (fun b9 => ?_) (fun b9 => ?_)
      · have hf := hf.1 b9
        refine zr_iconst (pc := 139) (v := (1 : Int32)) h dX12_isOwn_139 (by decide) ?_
        refine zr_goto (pc := 140) (tgt := 144) h dX12_isOwn_140 rfl ?_
        exact zr_zret (pc := 144) h rfl dX12_isOwn_144 (zRi hf) rfl
      · have hf := hf.2 b9
        refine zr_iload_n (pc := 89) h dX12_isOwn_89 rfl rfl ?_
        refine zr_ldc (pc := 90) h zw_1543 dX12_isOwn_90 ?_
        have hf := zIf_s hf
        refine zr_icmp_eq (pc := 92) (tgt := 139) h dX12_isOwn_92 rfl (fun b8 => ?_) (fun b8 => ?_)
        · have hf := hf.1 b8
          refine zr_iconst (pc := 139) (v := (1 : Int32)) h dX12_isOwn_139 (by decide) ?_
          refine zr_goto (pc := 140) (tgt := 144) h dX12_isOwn_140 rfl ?_
          exact zr_zret (pc := 144) h rfl dX12_isOwn_144 (zRi hf) rfl
        · have hf := hf.2 b8
          refine zr_iload_n (pc := 95) h dX12_isOwn_95 rfl rfl ?_
          refine zr_bipush (pc := 96) (v := (52 : Int32)) h dX12_isOwn_96 (by decide) ?_
          have hf := zIf_s hf
          refine zr_icmp_eq (pc := 98) (tgt := 139) h dX12_isOwn_98 rfl (fun b7 => ?_) (fun b7 => ?_)
          · have hf := hf.1 b7
            refine zr_iconst (pc := 139) (v := (1 : Int32)) h dX12_isOwn_139 (by decide) ?_
            refine zr_goto (pc := 140) (tgt := 144) h dX12_isOwn_140 rfl ?_
            exact zr_zret (pc := 144) h rfl dX12_isOwn_144 (zRi hf) rfl
          · have hf := hf.2 b7
            refine zr_iload_n (pc := 101) h dX12_isOwn_101 rfl rfl ?_
            refine zr_sipush (pc := 102) (v := (688 : Int32)) h dX12_isOwn_102 (by decide) ?_
            have hf := zIf_s hf
            refine zr_icmp_eq (pc := 105) (tgt := 139) h dX12_isOwn_105 rfl (fun b6 => ?_) (fun b6 => ?_)
            · have hf := hf.1 b6
              refine zr_iconst (pc := 139) (v := (1 : Int32)) h dX12_isOwn_139 (by decide) ?_
              refine zr_goto (pc := 140) (tgt := 144) h dX12_isOwn_140 rfl ?_
              exact zr_zret (pc := 144) h rfl dX12_isOwn_144 (zRi hf) rfl
            · have hf := hf.2 b6
              refine zr_iload_n (pc := 108) h dX12_isOwn_108 rfl rfl ?_
              refine zr_ldc (pc := 109) h zw_1544 dX12_isOwn_109 ?_
              have hf := zIf_s hf
              refine zr_icmp_eq (pc := 111) (tgt := 139) h dX12_isOwn_111 rfl (fun b5 => ?_) (fun b5 => ?_)
              · have hf := hf.1 b5
                refine zr_iconst (pc := 139) (v := (1 : Int32)) h dX12_isOwn_139 (by decide) ?_
                refine zr_goto (pc := 140) (tgt := 144) h dX12_isOwn_140 rfl ?_
                exact zr_zret (pc := 144) h rfl dX12_isOwn_144 (zRi hf) rfl
              · have hf := hf.2 b5
                refine zr_iload_n (pc := 114) h dX12_isOwn_114 rfl rfl ?_
                refine zr_sipush (pc := 115) (v := (3764 : Int32)) h dX12_isOwn_115 (by decide) ?_
                have hf := zIf_s hf
                refine zr_icmp_eq (pc := 118) (tgt := 139) h dX12_isOwn_118 rfl (fun b4 => ?_) (fun b4 => ?_)
                · have hf := hf.1 b4
                  refine zr_iconst (pc := 139) (v := (1 : Int32)) h dX12_isOwn_139 (by decide) ?_
                  refine zr_goto (pc := 140) (tgt := 144) h dX12_isOwn_140 rfl ?_
                  exact zr_zret (pc := 144) h rfl dX12_isOwn_144 (zRi hf) rfl
                · have hf := hf.2 b4
                  refine zr_iload_n (pc := 121) h dX12_isOwn_121 rfl rfl ?_
                  refine zr_ldc (pc := 122) h zw_1545 dX12_isOwn_122 ?_
                  have hf := zIf_s hf
                  refine zr_icmp_eq (pc := 124) (tgt := 139) h dX12_isOwn_124 rfl (fun b3 => ?_) (fun b3 => ?_)
                  · have hf := hf.1 b3
                    refine zr_iconst (pc := 139) (v := (1 : Int32)) h dX12_isOwn_139 (by decide) ?_
                    refine zr_goto (pc := 140) (tgt := 144) h dX12_isOwn_140 rfl ?_
                    exact zr_zret (pc := 144) h rfl dX12_isOwn_144 (zRi hf) rfl
                  · have hf := hf.2 b3
                    refine zr_iload_n (pc := 127) h dX12_isOwn_127 rfl rfl ?_
                    refine zr_ldc (pc := 128) h zw_1546 dX12_isOwn_128 ?_
                    have hf := zIf_s hf
                    refine zr_icmp_eq (pc := 130) (tgt := 139) h dX12_isOwn_130 rfl (fun b2 => ?_) (fun b2 => ?_)
                    · have hf := hf.1 b2
                      refine zr_iconst (pc := 139) (v := (1 : Int32)) h dX12_isOwn_139 (by decide) ?_
                      refine zr_goto (pc := 140) (tgt := 144) h dX12_isOwn_140 rfl ?_
                      exact zr_zret (pc := 144) h rfl dX12_isOwn_144 (zRi hf) rfl
                    · have hf := hf.2 b2
                      refine zr_iload_n (pc := 133) h dX12_isOwn_133 rfl rfl ?_
                      refine zr_ldc (pc := 134) h zw_1547 dX12_isOwn_134 ?_
                      have hf := zIf_s hf
                      refine zr_icmp_ne (pc := 136) (tgt := 143) h dX12_isOwn_136 rfl (fun b1 => ?_) (fun b1 => ?_)
                      · have hf := hf.2 b1
                        refine zr_iconst (pc := 143) (v := (0 : Int32)) h dX12_isOwn_143 (by decide) ?_
                        exact zr_zret (pc := 144) h rfl dX12_isOwn_144 (zRi hf) rfl
                      · have hf := hf.1 b1
                        refine zr_iconst (pc := 139) (v := (1 : Int32)) h dX12_isOwn_139 (by decide) ?_
                        refine zr_goto (pc := 140) (tgt := 144) h dX12_isOwn_140 rfl ?_
                        exact zr_zret (pc := 144) h rfl dX12_isOwn_144 (zRi hf) rfl

set_option maxRecDepth 100000 in
set_option maxHeartbeats 4000000 in
theorem fX12_isOwn_n67_ok {l : Launch} {g : gG} {r : Int32} {μe : gM} {K : gKt} (h : gR l g cX12_isOwn RX12 2 (some .boolean) (gRm 0 0) (some (.int r)) μe K) {y0 : Int32} (hf : fX12_isOwn_n67 y0 μe = some r) : K 67 [some (.int y0), none] [] μe := by
  unfold fX12_isOwn_n67 at hf
  refine zr_iconst (pc := 67) (v := (1 : Int32)) h dX12_isOwn_67 (by decide) ?_
  refine zr_goto (pc := 68) (tgt := 72) h dX12_isOwn_68 rfl ?_
  exact zr_weak h [true, false] (fX12_isOwn_n72_ok h hf)

set_option maxRecDepth 100000 in
set_option maxHeartbeats 4000000 in
theorem cX12_isOwn_ok {l : Launch} {g : gG} {a1 : Int32} {μ : gM} {r : Int32} (hf : fX12_isOwn a1 μ = some r) : gMet l g yX12_isOwn cX12_isOwn 2 (some .boolean) 0 0 [.int a1] μ (some (.int r)) μ := by
  refine gMet_of (gIni [.int a1] ++ List.replicate 1 none) (by decide) (gIni_ok _ _) (Nat.le_of_ble_eq_true rfl) (fun K h => ?_)
  show K 0 [some (.int a1), none] [] μ
  unfold fX12_isOwn at hf
  refine zr_iload_n (pc := 0) h dX12_isOwn_0 rfl rfl ?_
  refine zr_ldc (pc := 1) h zw_1484 dX12_isOwn_1 ?_
  have hf := zIf_s hf
  refine zr_icmp_eq (pc := 3) (tgt := 67) h dX12_isOwn_3 rfl (fun b22 => ?_) (fun b22 => ?_)
  · have hf := hf.1 b22
    exact zr_weak h [true, false] (fX12_isOwn_n67_ok h hf)
  · have hf := hf.2 b22
    refine zr_iload_n (pc := 6) h dX12_isOwn_6 rfl rfl ?_
    refine zr_ldc (pc := 7) h zw_1499 dX12_isOwn_7 ?_
    have hf := zIf_s hf
    refine zr_icmp_eq (pc := 9) (tgt := 67) h dX12_isOwn_9 rfl (fun b21 => ?_) (fun b21 => ?_)
    · have hf := hf.1 b21
      exact zr_weak h [true, false] (fX12_isOwn_n67_ok h hf)
    · have hf := hf.2 b21
      refine zr_iload_n (pc := 12) h dX12_isOwn_12 rfl rfl ?_
      refine zr_ldc (pc := 13) h zw_1500 dX12_isOwn_13 ?_
      have hf := zIf_s hf
      refine zr_icmp_eq (pc := 15) (tgt := 67) h dX12_isOwn_15 rfl (fun b20 => ?_) (fun b20 => ?_)
      · have hf := hf.1 b20
        exact zr_weak h [true, false] (fX12_isOwn_n67_ok h hf)
      · have hf := hf.2 b20
        refine zr_iload_n (pc := 18) h dX12_isOwn_18 rfl rfl ?_
        refine zr_ldc (pc := 19) h zw_1537 dX12_isOwn_19 ?_
        have hf := zIf_s hf
        refine zr_icmp_eq (pc := 21) (tgt := 67) h dX12_isOwn_21 rfl (fun b19 => ?_) (fun b19 => ?_)
        · have hf := hf.1 b19
          exact zr_weak h [true, false] (fX12_isOwn_n67_ok h hf)
        · have hf := hf.2 b19
          refine zr_iload_n (pc := 24) h dX12_isOwn_24 rfl rfl ?_
          refine zr_ldc (pc := 25) h zw_1538 dX12_isOwn_25 ?_
          have hf := zIf_s hf
          refine zr_icmp_eq (pc := 27) (tgt := 67) h dX12_isOwn_27 rfl (fun b18 => ?_) (fun b18 => ?_)
          · have hf := hf.1 b18
            exact zr_weak h [true, false] (fX12_isOwn_n67_ok h hf)
          · have hf := hf.2 b18
            refine zr_iload_n (pc := 30) h dX12_isOwn_30 rfl rfl ?_
            refine zr_ldc (pc := 31) h zw_1539 dX12_isOwn_31 ?_
            have hf := zIf_s hf
            refine zr_icmp_eq (pc := 33) (tgt := 67) h dX12_isOwn_33 rfl (fun b17 => ?_) (fun b17 => ?_)
            · have hf := hf.1 b17
              exact zr_weak h [true, false] (fX12_isOwn_n67_ok h hf)
            · have hf := hf.2 b17
              refine zr_iload_n (pc := 36) h dX12_isOwn_36 rfl rfl ?_
              refine zr_ldc (pc := 37) h zw_1540 dX12_isOwn_37 ?_
              have hf := zIf_s hf
              refine zr_icmp_eq (pc := 39) (tgt := 67) h dX12_isOwn_39 rfl (fun b16 => ?_) (fun b16 => ?_)
              · have hf := hf.1 b16
                exact zr_weak h [true, false] (fX12_isOwn_n67_ok h hf)
              · have hf := hf.2 b16
                refine zr_iload_n (pc := 42) h dX12_isOwn_42 rfl rfl ?_
                refine zr_ldc (pc := 43) h zw_1501 dX12_isOwn_43 ?_
                have hf := zIf_s hf
                refine zr_icmp_eq (pc := 45) (tgt := 67) h dX12_isOwn_45 rfl (fun b15 => ?_) (fun b15 => ?_)
                · have hf := hf.1 b15
                  exact zr_weak h [true, false] (fX12_isOwn_n67_ok h hf)
                · have hf := hf.2 b15
                  refine zr_iload_n (pc := 48) h dX12_isOwn_48 rfl rfl ?_
                  refine zr_sipush (pc := 49) (v := (486 : Int32)) h dX12_isOwn_49 (by decide) ?_
                  have hf := zIf_s hf
                  refine zr_icmp_eq (pc := 52) (tgt := 67) h dX12_isOwn_52 rfl (fun b14 => ?_) (fun b14 => ?_)
                  · have hf := hf.1 b14
                    exact zr_weak h [true, false] (fX12_isOwn_n67_ok h hf)
                  · have hf := hf.2 b14
                    refine zr_iload_n (pc := 55) h dX12_isOwn_55 rfl rfl ?_
                    refine zr_ldc (pc := 56) h zw_1541 dX12_isOwn_56 ?_
                    have hf := zIf_s hf
                    refine zr_icmp_eq (pc := 58) (tgt := 67) h dX12_isOwn_58 rfl (fun b13 => ?_) (fun b13 => ?_)
                    · have hf := hf.1 b13
                      exact zr_weak h [true, false] (fX12_isOwn_n67_ok h hf)
                    · have hf := hf.2 b13
                      refine zr_iload_n (pc := 61) h dX12_isOwn_61 rfl rfl ?_
                      refine zr_ldc (pc := 62) h zw_1542 dX12_isOwn_62 ?_
                      have hf := zIf_s hf
                      refine zr_icmp_ne (pc := 64) (tgt := 71) h dX12_isOwn_64 rfl (fun b12 => ?_) (fun b12 => ?_)
                      · have hf := hf.2 b12
                        refine zr_iconst (pc := 71) (v := (0 : Int32)) h dX12_isOwn_71 (by decide) ?_
                        exact zr_weak h [true, false] (fX12_isOwn_n72_ok h hf)
                      · have hf := hf.1 b12
                        exact zr_weak h [true, false] (fX12_isOwn_n67_ok h hf)

set_option maxRecDepth 100000 in
set_option maxHeartbeats 4000000 in
theorem cX12_begins_ok {l : Launch} {g : gG} {μ : gM} {ν : gM} (hf : fX12_begins μ = some ν) : gMet l g yX12_begins cX12_begins 1 none 0 0 [.ref (g.1 + 267)] μ none ν := by
  refine gMet_of (gIni [.ref (g.1 + 267)] ++ List.replicate 0 none) (by decide) (gIni_ok _ _) (Nat.le_of_ble_eq_true rfl) (fun K h => ?_)
  show K 0 [some (.ref (g.1 + 267))] [] μ
  unfold fX12_begins at hf
  refine zr_aload_n (pc := 0) h dX12_begins_0 rfl rfl ?_
  refine zr_aload_n (pc := 1) h dX12_begins_1 rfl rfl ?_
  refine zf_X12_49 (pc := 2) h gkc_267 dX12_begins_2 ?_
  refine zp_X12_76 (pc := 5) h gkc_267 dX12_begins_5 ?_
  refine zr_mu h (fun μ1 eμ1 => ?_)
  have hf := zLt_s eμ1 hf
  refine zr_aload_n (pc := 8) h dX12_begins_8 rfl rfl ?_
  refine zr_iconst (pc := 9) (v := (0 : Int32)) h dX12_begins_9 (by decide) ?_
  refine zp_X12_49 (pc := 10) h gkc_267 dX12_begins_10 ?_
  refine zr_mu h (fun μ2 eμ2 => ?_)
  have hf := zLt_s eμ2 hf
  refine zr_aload_n (pc := 13) h dX12_begins_13 rfl rfl ?_
  refine zr_iconst (pc := 14) (v := (0 : Int32)) h dX12_begins_14 (by decide) ?_
  refine zp_X12_79 (pc := 15) h gkc_267 dX12_begins_15 ?_
  refine zr_mu h (fun μ3 eμ3 => ?_)
  have hf := zLt_s eμ3 hf
  refine zr_aload_n (pc := 18) h dX12_begins_18 rfl rfl ?_
  refine zr_iconst (pc := 19) (v := (-1 : Int32)) h dX12_begins_19 (by decide) ?_
  refine zp_X12_82 (pc := 20) h gkc_267 dX12_begins_20 ?_
  refine zr_mu h (fun μ4 eμ4 => ?_)
  have hf := zLt_s eμ4 hf
  refine zr_aload_n (pc := 23) h dX12_begins_23 rfl rfl ?_
  refine zr_iconst (pc := 24) (v := (0 : Int32)) h dX12_begins_24 (by decide) ?_
  refine zp_X12_85 (pc := 25) h gkc_267 dX12_begins_25 ?_
  refine zr_mu h (fun μ5 eμ5 => ?_)
  have hf := zLt_s eμ5 hf
  refine zr_aload_n (pc := 28) h dX12_begins_28 rfl rfl ?_
  refine zr_iconst (pc := 29) (v := (-1 : Int32)) h dX12_begins_29 (by decide) ?_
  refine zp_X12_88 (pc := 30) h gkc_267 dX12_begins_30 ?_
  refine zr_mu h (fun μ6 eμ6 => ?_)
  have hf := zLt_s eμ6 hf
  exact zr_vret (pc := 33) h dX12_begins_33 rfl (zRv hf)

set_option maxRecDepth 100000 in
set_option maxHeartbeats 4000000 in
theorem cX12_isFine_ok {l : Launch} {g : gG} {μ : gM} {r : Int32} (hf : fX12_isFine μ = some r) : gMet l g yX12_isFine cX12_isFine 1 (some .boolean) 0 0 [.ref (g.1 + 267)] μ (some (.int r)) μ := by
  refine gMet_of (gIni [.ref (g.1 + 267)] ++ List.replicate 0 none) (by decide) (gIni_ok _ _) (Nat.le_of_ble_eq_true rfl) (fun K h => ?_)
  show K 0 [some (.ref (g.1 + 267))] [] μ
  unfold fX12_isFine at hf
  refine zr_aload_n (pc := 0) h dX12_isFine_0 rfl rfl ?_
  refine zf_X12_85 (pc := 1) h gkc_267 dX12_isFine_1 ?_
  have hf := zIf_s hf
  refine zr_if_ne (pc := 4) (tgt := 11) h dX12_isFine_4 rfl (fun b1 => ?_) (fun b1 => ?_)
  · have hf := hf.2 b1
    refine zr_iconst (pc := 11) (v := (0 : Int32)) h dX12_isFine_11 (by decide) ?_
    exact zr_zret (pc := 12) h rfl dX12_isFine_12 (zRi hf) rfl
  · have hf := hf.1 b1
    refine zr_iconst (pc := 7) (v := (1 : Int32)) h dX12_isFine_7 (by decide) ?_
    refine zr_goto (pc := 8) (tgt := 12) h dX12_isFine_8 rfl ?_
    exact zr_zret (pc := 12) h rfl dX12_isFine_12 (zRi hf) rfl

set_option maxRecDepth 100000 in
set_option maxHeartbeats 4000000 in
theorem cX12_fail_ok {l : Launch} {g : gG} {a1 : Int32} {a2 : Int32} {μ : gM} {ν : gM} (hf : fX12_fail a1 a2 μ = some ν) : gMet l g yX12_fail cX12_fail 3 none 0 0 [.ref (g.1 + 267), .int a1, .int a2] μ none ν := by
  refine gMet_of (gIni [.ref (g.1 + 267), .int a1, .int a2] ++ List.replicate 0 none) (by decide) (gIni_ok _ _) (Nat.le_of_ble_eq_true rfl) (fun K h => ?_)
  show K 0 [some (.ref (g.1 + 267)), some (.int a1), some (.int a2)] [] μ
  unfold fX12_fail at hf
  refine zr_aload_n (pc := 0) h dX12_fail_0 rfl rfl ?_
  refine zf_X12_85 (pc := 1) h gkc_267 dX12_fail_1 ?_
  have hf := zIf_s hf
  refine zr_if_eq (pc := 4) (tgt := 8) h dX12_fail_4 rfl (fun b3 => ?_) (fun b3 => ?_)
  · have hf := hf.1 b3
    refine zr_aload_n (pc := 8) h dX12_fail_8 rfl rfl ?_
    refine zr_iload_n (pc := 9) h dX12_fail_9 rfl rfl ?_
    refine zp_X12_85 (pc := 10) h gkc_267 dX12_fail_10 ?_
    refine zr_mu h (fun μ1 eμ1 => ?_)
    have hf := zLt_s eμ1 hf
    refine zr_aload_n (pc := 13) h dX12_fail_13 rfl rfl ?_
    refine zr_iload_n (pc := 14) h dX12_fail_14 rfl rfl ?_
    refine zp_X12_88 (pc := 15) h gkc_267 dX12_fail_15 ?_
    refine zr_mu h (fun μ2 eμ2 => ?_)
    have hf := zLt_s eμ2 hf
    exact zr_vret (pc := 18) h dX12_fail_18 rfl (zRv hf)
  · have hf := hf.2 b3
    exact zr_vret (pc := 7) h dX12_fail_7 rfl (zRv hf)

set_option maxRecDepth 100000 in
set_option maxHeartbeats 4000000 in
theorem fX12_isRead_n24_ok {l : Launch} {g : gG} {r : Int32} {ν : gM} {K : gKt} (h : gR l g cX12_isRead RX12 1 (some .boolean) (gRm 0 0) (some (.int r)) ν K) {z0 : Int32} {μ : gM} (hf : fX12_isRead_n24 z0 μ = some (r, ν)) : K 24 [some (.ref (g.1 + 267))] [.int z0, .ref (g.1 + 267)] μ := by
  unfold fX12_isRead_n24 at hf
  refine zp_X12_13 (pc := 24) h gkc_267 dX12_isRead_24 ?_
  refine zr_mu h (fun μ2 eμ2 => ?_)
  have hf := zLt_s eμ2 hf
  refine zr_aload_n (pc := 27) h dX12_isRead_27 rfl rfl ?_
  refine zf_X12_85 (pc := 28) h gkc_267 dX12_isRead_28 ?_
  have hf := zIf_s hf
  refine zr_if_ne (pc := 31) (tgt := 38) h dX12_isRead_31 rfl (fun b3 => ?_) (fun b3 => ?_)
  · have hf := hf.2 b3
    refine zr_iconst (pc := 38) (v := (0 : Int32)) h dX12_isRead_38 (by decide) ?_
    exact zr_zret (pc := 39) h rfl dX12_isRead_39 (zRp hf).1 (zRp hf).2
  · have hf := hf.1 b3
    refine zr_iconst (pc := 34) (v := (1 : Int32)) h dX12_isRead_34 (by decide) ?_
    refine zr_goto (pc := 35) (tgt := 39) h dX12_isRead_35 rfl ?_
    exact zr_zret (pc := 39) h rfl dX12_isRead_39 (zRp hf).1 (zRp hf).2

set_option maxRecDepth 100000 in
set_option maxHeartbeats 4000000 in
theorem cX12_isRead_ok {l : Launch} {g : gG} {μ : gM} {r : Int32} {ν : gM} (hf : fX12_isRead μ = some (r, ν)) : gMet l g yX12_isRead cX12_isRead 1 (some .boolean) 0 0 [.ref (g.1 + 267)] μ (some (.int r)) ν := by
  refine gMet_of (gIni [.ref (g.1 + 267)] ++ List.replicate 0 none) (by decide) (gIni_ok _ _) (Nat.le_of_ble_eq_true rfl) (fun K h => ?_)
  show K 0 [some (.ref (g.1 + 267))] [] μ
  unfold fX12_isRead at hf
  refine zr_aload_n (pc := 0) h dX12_isRead_0 rfl rfl ?_
  refine zr_aload_n (pc := 1) h dX12_isRead_1 rfl rfl ?_
  refine zf_X12_85 (pc := 2) h gkc_267 dX12_isRead_2 ?_
  refine zp_X12_91 (pc := 5) h gkc_267 dX12_isRead_5 ?_
  refine zr_mu h (fun μ1 eμ1 => ?_)
  have hf := zLt_s eμ1 hf
  refine zr_aload_n (pc := 8) h dX12_isRead_8 rfl rfl ?_
  refine zr_aload_n (pc := 9) h dX12_isRead_9 rfl rfl ?_
  refine zf_X12_85 (pc := 10) h gkc_267 dX12_isRead_10 ?_
  have hf := zIf_s hf
  refine zr_if_ne (pc := 13) (tgt := 20) h dX12_isRead_13 rfl (fun b4 => ?_) (fun b4 => ?_)
  · have hf := hf.2 b4
    refine zr_aload_n (pc := 20) h dX12_isRead_20 rfl rfl ?_
    refine zf_X12_88 (pc := 21) h gkc_267 dX12_isRead_21 ?_
    exact zr_weak h [true] (fX12_isRead_n24_ok h hf)
  · have hf := hf.1 b4
    refine zr_iconst (pc := 16) (v := (-1 : Int32)) h dX12_isRead_16 (by decide) ?_
    refine zr_goto (pc := 17) (tgt := 24) h dX12_isRead_17 rfl ?_
    exact zr_weak h [true] (fX12_isRead_n24_ok h hf)

set_option maxRecDepth 100000 in
set_option maxHeartbeats 4000000 in
theorem cX12_isLetter_ok {l : Launch} {g : gG} {a1 : Int32} {μ : gM} {r : Int32} (hf : fX12_isLetter a1 μ = some r) : gMet l g yX12_isLetter cX12_isLetter 2 (some .boolean) 1 25 [.ref (g.1 + 267), .int a1] μ (some (.int r)) μ := by
  refine gMet_of (gIni [.ref (g.1 + 267), .int a1] ++ List.replicate 0 none) (by decide) (gIni_ok _ _) (Nat.le_of_ble_eq_true rfl) (fun K h => ?_)
  show K 0 [some (.ref (g.1 + 267)), some (.int a1)] [] μ
  unfold fX12_isLetter at hf
  refine zr_iload_n (pc := 0) h dX12_isLetter_0 rfl rfl ?_
  refine zr_aload_n (pc := 1) h dX12_isLetter_1 rfl rfl ?_
  refine zf_X12_76 (pc := 2) h gkc_267 dX12_isLetter_2 ?_
  have hf := zIf_s hf
  refine zr_icmp_ge (pc := 5) (tgt := 31) h dX12_isLetter_5 rfl (fun b4 => ?_) (fun b4 => ?_)
  · have hf := hf.1 b4
    refine zr_iconst (pc := 31) (v := (0 : Int32)) h dX12_isLetter_31 (by decide) ?_
    exact zr_zret (pc := 32) h rfl dX12_isLetter_32 (zRi hf) rfl
  · have hf := hf.2 b4
    refine zr_aload_n (pc := 8) h dX12_isLetter_8 rfl rfl ?_
    refine zf_X12_7 (pc := 9) h gkc_267 dX12_isLetter_9 ?_
    refine zr_iload_n (pc := 12) h dX12_isLetter_12 rfl rfl ?_
    obtain ⟨q1, hf⟩ := zCk_s hf
    refine zr_bald (pc := 13) h gkc_268 q1 rfl dX12_isLetter_13 ?_
    refine zr_i2l (pc := 14) h dX12_isLetter_14 ?_
    refine zr_ldc2 (pc := 15) h zw_1497 dX12_isLetter_15 ?_
    refine zr_ldc2 (pc := 18) h zw_1498 dX12_isLetter_18 ?_
    obtain ⟨x2, ex2, hf⟩ := zBd_s hf
    refine zm_X12_56 (pc := 21) h ⟨by decide, by decide⟩ (cX12_isIn_ok ex2) rfl (Nat.le_of_ble_eq_true rfl) dX12_isLetter_21 rfl ?_
    have hf := zIf_s hf
    refine zr_if_eq (pc := 24) (tgt := 31) h dX12_isLetter_24 rfl (fun b3 => ?_) (fun b3 => ?_)
    · have hf := hf.1 b3
      refine zr_iconst (pc := 31) (v := (0 : Int32)) h dX12_isLetter_31 (by decide) ?_
      exact zr_zret (pc := 32) h rfl dX12_isLetter_32 (zRi hf) rfl
    · have hf := hf.2 b3
      refine zr_iconst (pc := 27) (v := (1 : Int32)) h dX12_isLetter_27 (by decide) ?_
      refine zr_goto (pc := 28) (tgt := 32) h dX12_isLetter_28 rfl ?_
      exact zr_zret (pc := 32) h rfl dX12_isLetter_32 (zRi hf) rfl

set_option maxRecDepth 100000 in
set_option maxHeartbeats 4000000 in
theorem cX12_isDigit_ok {l : Launch} {g : gG} {a1 : Int32} {μ : gM} {r : Int32} (hf : fX12_isDigit a1 μ = some r) : gMet l g yX12_isDigit cX12_isDigit 2 (some .boolean) 1 25 [.ref (g.1 + 267), .int a1] μ (some (.int r)) μ := by
  refine gMet_of (gIni [.ref (g.1 + 267), .int a1] ++ List.replicate 0 none) (by decide) (gIni_ok _ _) (Nat.le_of_ble_eq_true rfl) (fun K h => ?_)
  show K 0 [some (.ref (g.1 + 267)), some (.int a1)] [] μ
  unfold fX12_isDigit at hf
  refine zr_iload_n (pc := 0) h dX12_isDigit_0 rfl rfl ?_
  refine zr_aload_n (pc := 1) h dX12_isDigit_1 rfl rfl ?_
  refine zf_X12_76 (pc := 2) h gkc_267 dX12_isDigit_2 ?_
  have hf := zIf_s hf
  refine zr_icmp_ge (pc := 5) (tgt := 31) h dX12_isDigit_5 rfl (fun b4 => ?_) (fun b4 => ?_)
  · have hf := hf.1 b4
    refine zr_iconst (pc := 31) (v := (0 : Int32)) h dX12_isDigit_31 (by decide) ?_
    exact zr_zret (pc := 32) h rfl dX12_isDigit_32 (zRi hf) rfl
  · have hf := hf.2 b4
    refine zr_aload_n (pc := 8) h dX12_isDigit_8 rfl rfl ?_
    refine zf_X12_7 (pc := 9) h gkc_267 dX12_isDigit_9 ?_
    refine zr_iload_n (pc := 12) h dX12_isDigit_12 rfl rfl ?_
    obtain ⟨q1, hf⟩ := zCk_s hf
    refine zr_bald (pc := 13) h gkc_268 q1 rfl dX12_isDigit_13 ?_
    refine zr_i2l (pc := 14) h dX12_isDigit_14 ?_
    refine zr_ldc2 (pc := 15) h zw_1567 dX12_isDigit_15 ?_
    refine zr_ldc2 (pc := 18) h zw_1568 dX12_isDigit_18 ?_
    obtain ⟨x2, ex2, hf⟩ := zBd_s hf
    refine zm_X12_56 (pc := 21) h ⟨by decide, by decide⟩ (cX12_isIn_ok ex2) rfl (Nat.le_of_ble_eq_true rfl) dX12_isDigit_21 rfl ?_
    have hf := zIf_s hf
    refine zr_if_eq (pc := 24) (tgt := 31) h dX12_isDigit_24 rfl (fun b3 => ?_) (fun b3 => ?_)
    · have hf := hf.1 b3
      refine zr_iconst (pc := 31) (v := (0 : Int32)) h dX12_isDigit_31 (by decide) ?_
      exact zr_zret (pc := 32) h rfl dX12_isDigit_32 (zRi hf) rfl
    · have hf := hf.2 b3
      refine zr_iconst (pc := 27) (v := (1 : Int32)) h dX12_isDigit_27 (by decide) ?_
      refine zr_goto (pc := 28) (tgt := 32) h dX12_isDigit_28 rfl ?_
      exact zr_zret (pc := 32) h rfl dX12_isDigit_32 (zRi hf) rfl

set_option maxRecDepth 100000 in
set_option maxHeartbeats 4000000 in
theorem fX12_next_n39_ok {l : Launch} {g : gG} {k0 : gM → Option (Int32 × gM)} {r : Int32} {ν : gM} {K : gKt} (h : gR l g cX12_next RX12 1 (some .int) (gRm 0 0) (some (.int r)) ν K) (hk0 : ∀ (ν1 : gM), k0 ν1 = some (r, ν) → K 0 [some (.ref (g.1 + 267))] [] ν1) {μ : gM} (hf : fX12_next_n39 k0 μ = some (r, ν)) : K 39 [some (.ref (g.1 + 267))] [] μ := by
  unfold fX12_next_n39 at hf
  refine zr_aload_n (pc := 39) h dX12_next_39 rfl rfl ?_
  refine zr_dup (pc := 40) h dX12_next_40 rfl ?_
  refine zf_X12_79 (pc := 41) h gkc_267 dX12_next_41 ?_
  refine zr_iconst (pc := 44) (v := (1 : Int32)) h dX12_next_44 (by decide) ?_
  refine zr_iadd (pc := 45) h dX12_next_45 ?_
  refine zp_X12_79 (pc := 46) h gkc_267 dX12_next_46 ?_
  refine zr_mu h (fun μ2 eμ2 => ?_)
  have hf := zLt_s eμ2 hf
  refine zr_goto (pc := 49) (tgt := 0) h dX12_next_49 rfl ?_
  exact zr_weak h [true] (hk0 _ hf)

set_option maxRecDepth 100000 in
set_option maxHeartbeats 4000000 in
theorem fX12_next_l0_ok {l : Launch} {g : gG} {r : Int32} {ν : gM} {K : gKt} (h : gR l g cX12_next RX12 1 (some .int) (gRm 0 0) (some (.int r)) ν K) : ∀ (n : Nat) (μ : gM), fX12_next_l0 n μ = some (r, ν) → K 0 [some (.ref (g.1 + 267))] [] μ := by
  intro n
  induction n with
  | zero =>
    intro μ hf
    cases (show (none : Option (Int32 × gM)) = some _ from hf)
  | succ n ih =>
    intro μ hf
    unfold fX12_next_l0 at hf
    refine zr_aload_n (pc := 0) h dX12_next_0 rfl rfl ?_
    refine zf_X12_79 (pc := 1) h gkc_267 dX12_next_1 ?_
    refine zr_aload_n (pc := 4) h dX12_next_4 rfl rfl ?_
    refine zf_X12_76 (pc := 5) h gkc_267 dX12_next_5 ?_
    have hf := zIf_s hf
    refine zr_icmp_ge (pc := 8) (tgt := 52) h dX12_next_8 rfl (fun b6 => ?_) (fun b6 => ?_)
    · have hf := hf.1 b6
      refine zr_aload_n (pc := 52) h dX12_next_52 rfl rfl ?_
      refine zf_X12_79 (pc := 53) h gkc_267 dX12_next_53 ?_
      exact zr_iret (pc := 56) h dX12_next_56 (zRp hf).1 (zRp hf).2
    · have hf := hf.2 b6
      refine zr_aload_n (pc := 11) h dX12_next_11 rfl rfl ?_
      refine zf_X12_7 (pc := 12) h gkc_267 dX12_next_12 ?_
      refine zr_aload_n (pc := 15) h dX12_next_15 rfl rfl ?_
      refine zf_X12_79 (pc := 16) h gkc_267 dX12_next_16 ?_
      obtain ⟨q1, hf⟩ := zCk_s hf
      refine zr_bald (pc := 19) h gkc_268 q1 rfl dX12_next_19 ?_
      refine zr_bipush (pc := 20) (v := (32 : Int32)) h dX12_next_20 (by decide) ?_
      have hf := zIf_s hf
      refine zr_icmp_eq (pc := 22) (tgt := 39) h dX12_next_22 rfl (fun b5 => ?_) (fun b5 => ?_)
      · have hf := hf.1 b5
        exact zr_weak h [true] (fX12_next_n39_ok h ih hf)
      · have hf := hf.2 b5
        refine zr_aload_n (pc := 25) h dX12_next_25 rfl rfl ?_
        refine zf_X12_7 (pc := 26) h gkc_267 dX12_next_26 ?_
        refine zr_aload_n (pc := 29) h dX12_next_29 rfl rfl ?_
        refine zf_X12_79 (pc := 30) h gkc_267 dX12_next_30 ?_
        obtain ⟨q3, hf⟩ := zCk_s hf
        refine zr_bald (pc := 33) h gkc_268 q3 rfl dX12_next_33 ?_
        refine zr_bipush (pc := 34) (v := (10 : Int32)) h dX12_next_34 (by decide) ?_
        have hf := zIf_s hf
        refine zr_icmp_ne (pc := 36) (tgt := 52) h dX12_next_36 rfl (fun b4 => ?_) (fun b4 => ?_)
        · have hf := hf.2 b4
          refine zr_aload_n (pc := 52) h dX12_next_52 rfl rfl ?_
          refine zf_X12_79 (pc := 53) h gkc_267 dX12_next_53 ?_
          exact zr_iret (pc := 56) h dX12_next_56 (zRp hf).1 (zRp hf).2
        · have hf := hf.1 b4
          exact zr_weak h [true] (fX12_next_n39_ok h ih hf)

set_option maxRecDepth 100000 in
set_option maxHeartbeats 4000000 in
theorem cX12_next_ok {l : Launch} {g : gG} {μ : gM} {r : Int32} {ν : gM} (hf : fX12_next μ = some (r, ν)) : gMet l g yX12_next cX12_next 1 (some .int) 0 0 [.ref (g.1 + 267)] μ (some (.int r)) ν := by
  refine gMet_of (gIni [.ref (g.1 + 267)] ++ List.replicate 0 none) (by decide) (gIni_ok _ _) (Nat.le_of_ble_eq_true rfl) (fun K h => ?_)
  show K 0 [some (.ref (g.1 + 267))] [] μ
  unfold fX12_next at hf
  exact zr_weak h [true] (fX12_next_l0_ok h 100000 _ hf)

set_option maxRecDepth 100000 in
set_option maxHeartbeats 4000000 in
theorem cX12_isOver_ok {l : Launch} {g : gG} {μ : gM} {r : Int32} {ν : gM} (hf : fX12_isOver μ = some (r, ν)) : gMet l g yX12_isOver cX12_isOver 1 (some .boolean) 1 20 [.ref (g.1 + 267)] μ (some (.int r)) ν := by
  refine gMet_of (gIni [.ref (g.1 + 267)] ++ List.replicate 0 none) (by decide) (gIni_ok _ _) (Nat.le_of_ble_eq_true rfl) (fun K h => ?_)
  show K 0 [some (.ref (g.1 + 267))] [] μ
  unfold fX12_isOver at hf
  refine zr_aload_n (pc := 0) h dX12_isOver_0 rfl rfl ?_
  obtain ⟨x1, μ2, ex1, hf⟩ := zBp_s hf
  refine zm_X12_102 (pc := 1) h gkc_267 ⟨by decide, by decide⟩ (cX12_next_ok ex1) rfl (Nat.le_of_ble_eq_true rfl) dX12_isOver_1 rfl ?_
  refine zr_aload_n (pc := 4) h dX12_isOver_4 rfl rfl ?_
  refine zf_X12_76 (pc := 5) h gkc_267 dX12_isOver_5 ?_
  have hf := zIf_s hf
  refine zr_icmp_lt (pc := 8) (tgt := 15) h dX12_isOver_8 rfl (fun b3 => ?_) (fun b3 => ?_)
  · have hf := hf.1 b3
    refine zr_iconst (pc := 15) (v := (0 : Int32)) h dX12_isOver_15 (by decide) ?_
    exact zr_zret (pc := 16) h rfl dX12_isOver_16 (zRp hf).1 (zRp hf).2
  · have hf := hf.2 b3
    refine zr_iconst (pc := 11) (v := (1 : Int32)) h dX12_isOver_11 (by decide) ?_
    refine zr_goto (pc := 12) (tgt := 16) h dX12_isOver_12 rfl ?_
    exact zr_zret (pc := 16) h rfl dX12_isOver_16 (zRp hf).1 (zRp hf).2

set_option maxRecDepth 100000 in
set_option maxHeartbeats 4000000 in
theorem cX12_unlike_ok {l : Launch} {g : gG} {μ : gM} {ν : gM} (hf : fX12_unlike μ = some ν) : gMet l g yX12_unlike cX12_unlike 1 none 1 22 [.ref (g.1 + 267)] μ none ν := by
  refine gMet_of (gIni [.ref (g.1 + 267)] ++ List.replicate 0 none) (by decide) (gIni_ok _ _) (Nat.le_of_ble_eq_true rfl) (fun K h => ?_)
  show K 0 [some (.ref (g.1 + 267))] [] μ
  unfold fX12_unlike at hf
  refine zr_aload_n (pc := 0) h dX12_unlike_0 rfl rfl ?_
  refine zr_iconst (pc := 1) (v := (1 : Int32)) h dX12_unlike_1 (by decide) ?_
  refine zr_aload_n (pc := 2) h dX12_unlike_2 rfl rfl ?_
  obtain ⟨x1, μ2, ex1, hf⟩ := zBp_s hf
  refine zm_X12_102 (pc := 3) h gkc_267 ⟨by decide, by decide⟩ (cX12_next_ok ex1) rfl (Nat.le_of_ble_eq_true rfl) dX12_unlike_3 rfl ?_
  obtain ⟨μ3, eμ3, hf⟩ := zBd_s hf
  refine zm_X12_106 (pc := 6) h gkc_267 ⟨by decide, by decide⟩ (cX12_fail_ok eμ3) rfl (Nat.le_of_ble_eq_true rfl) dX12_unlike_6 rfl ?_
  exact zr_vret (pc := 9) h dX12_unlike_9 rfl (zRv hf)

set_option maxRecDepth 100000 in
set_option maxHeartbeats 4000000 in
theorem cX12_takesSign_ok {l : Launch} {g : gG} {a1 : Int32} {μ : gM} {r : Int32} {ν : gM} (hf : fX12_takesSign a1 μ = some (r, ν)) : gMet l g yX12_takesSign cX12_takesSign 2 (some .boolean) 2 40 [.ref (g.1 + 267), .int a1] μ (some (.int r)) ν := by
  refine gMet_of (gIni [.ref (g.1 + 267), .int a1] ++ List.replicate 0 none) (by decide) (gIni_ok _ _) (Nat.le_of_ble_eq_true rfl) (fun K h => ?_)
  show K 0 [some (.ref (g.1 + 267)), some (.int a1)] [] μ
  unfold fX12_takesSign at hf
  refine zr_aload_n (pc := 0) h dX12_takesSign_0 rfl rfl ?_
  obtain ⟨x1, ex1, hf⟩ := zBd_s hf
  refine zm_X12_110 (pc := 1) h gkc_267 ⟨by decide, by decide⟩ (cX12_isFine_ok ex1) rfl (Nat.le_of_ble_eq_true rfl) dX12_takesSign_1 rfl ?_
  have hf := zIf_s hf
  refine zr_if_eq (pc := 4) (tgt := 27) h dX12_takesSign_4 rfl (fun b8 => ?_) (fun b8 => ?_)
  · have hf := hf.1 b8
    refine zr_iconst (pc := 27) (v := (0 : Int32)) h dX12_takesSign_27 (by decide) ?_
    exact zr_zret (pc := 28) h rfl dX12_takesSign_28 (zRp hf).1 (zRp hf).2
  · have hf := hf.2 b8
    refine zr_aload_n (pc := 7) h dX12_takesSign_7 rfl rfl ?_
    obtain ⟨x2, μ3, ex2, hf⟩ := zBp_s hf
    refine zm_X12_114 (pc := 8) h gkc_267 ⟨by decide, by decide⟩ (cX12_isOver_ok ex2) rfl (Nat.le_of_ble_eq_true rfl) dX12_takesSign_8 rfl ?_
    have hf := zIf_s hf
    refine zr_if_ne (pc := 11) (tgt := 27) h dX12_takesSign_11 rfl (fun b7 => ?_) (fun b7 => ?_)
    · have hf := hf.2 b7
      refine zr_iconst (pc := 27) (v := (0 : Int32)) h dX12_takesSign_27 (by decide) ?_
      exact zr_zret (pc := 28) h rfl dX12_takesSign_28 (zRp hf).1 (zRp hf).2
    · have hf := hf.1 b7
      refine zr_aload_n (pc := 14) h dX12_takesSign_14 rfl rfl ?_
      refine zf_X12_7 (pc := 15) h gkc_267 dX12_takesSign_15 ?_
      refine zr_aload_n (pc := 18) h dX12_takesSign_18 rfl rfl ?_
      refine zf_X12_79 (pc := 19) h gkc_267 dX12_takesSign_19 ?_
      obtain ⟨q4, hf⟩ := zCk_s hf
      refine zr_bald (pc := 22) h gkc_268 q4 rfl dX12_takesSign_22 ?_
      refine zr_iload_n (pc := 23) h dX12_takesSign_23 rfl rfl ?_
      have hf := zIf_s hf
      refine zr_icmp_eq (pc := 24) (tgt := 29) h dX12_takesSign_24 rfl (fun b6 => ?_) (fun b6 => ?_)
      · have hf := hf.1 b6
        refine zr_aload_n (pc := 29) h dX12_takesSign_29 rfl rfl ?_
        refine zr_dup (pc := 30) h dX12_takesSign_30 rfl ?_
        refine zf_X12_79 (pc := 31) h gkc_267 dX12_takesSign_31 ?_
        refine zr_iconst (pc := 34) (v := (1 : Int32)) h dX12_takesSign_34 (by decide) ?_
        refine zr_iadd (pc := 35) h dX12_takesSign_35 ?_
        refine zp_X12_79 (pc := 36) h gkc_267 dX12_takesSign_36 ?_
        refine zr_mu h (fun μ5 eμ5 => ?_)
        have hf := zLt_s eμ5 hf
        refine zr_iconst (pc := 39) (v := (1 : Int32)) h dX12_takesSign_39 (by decide) ?_
        exact zr_zret (pc := 40) h rfl dX12_takesSign_40 (zRp hf).1 (zRp hf).2
      · have hf := hf.2 b6
        refine zr_iconst (pc := 27) (v := (0 : Int32)) h dX12_takesSign_27 (by decide) ?_
        exact zr_zret (pc := 28) h rfl dX12_takesSign_28 (zRp hf).1 (zRp hf).2

set_option maxRecDepth 100000 in
set_option maxHeartbeats 4000000 in
theorem cX12_needsSign_ok {l : Launch} {g : gG} {a1 : Int32} {μ : gM} {ν : gM} (hf : fX12_needsSign a1 μ = some ν) : gMet l g yX12_needsSign cX12_needsSign 2 none 3 61 [.ref (g.1 + 267), .int a1] μ none ν := by
  refine gMet_of (gIni [.ref (g.1 + 267), .int a1] ++ List.replicate 0 none) (by decide) (gIni_ok _ _) (Nat.le_of_ble_eq_true rfl) (fun K h => ?_)
  show K 0 [some (.ref (g.1 + 267)), some (.int a1)] [] μ
  unfold fX12_needsSign at hf
  refine zr_aload_n (pc := 0) h dX12_needsSign_0 rfl rfl ?_
  obtain ⟨x1, ex1, hf⟩ := zBd_s hf
  refine zm_X12_110 (pc := 1) h gkc_267 ⟨by decide, by decide⟩ (cX12_isFine_ok ex1) rfl (Nat.le_of_ble_eq_true rfl) dX12_needsSign_1 rfl ?_
  have hf := zIf_s hf
  refine zr_if_eq (pc := 4) (tgt := 19) h dX12_needsSign_4 rfl (fun b6 => ?_) (fun b6 => ?_)
  · have hf := hf.1 b6
    exact zr_vret (pc := 19) h dX12_needsSign_19 rfl (zRv hf)
  · have hf := hf.2 b6
    refine zr_aload_n (pc := 7) h dX12_needsSign_7 rfl rfl ?_
    refine zr_iload_n (pc := 8) h dX12_needsSign_8 rfl rfl ?_
    obtain ⟨x2, μ3, ex2, hf⟩ := zBp_s hf
    refine zm_X12_117 (pc := 9) h gkc_267 ⟨by decide, by decide⟩ (cX12_takesSign_ok ex2) rfl (Nat.le_of_ble_eq_true rfl) dX12_needsSign_9 rfl ?_
    have hf := zIf_s hf
    refine zr_if_ne (pc := 12) (tgt := 19) h dX12_needsSign_12 rfl (fun b5 => ?_) (fun b5 => ?_)
    · have hf := hf.2 b5
      exact zr_vret (pc := 19) h dX12_needsSign_19 rfl (zRv hf)
    · have hf := hf.1 b5
      refine zr_aload_n (pc := 15) h dX12_needsSign_15 rfl rfl ?_
      obtain ⟨μ4, eμ4, hf⟩ := zBd_s hf
      refine zm_X12_121 (pc := 16) h gkc_267 ⟨by decide, by decide⟩ (cX12_unlike_ok eμ4) rfl (Nat.le_of_ble_eq_true rfl) dX12_needsSign_16 rfl ?_
      exact zr_vret (pc := 19) h dX12_needsSign_19 rfl (zRv hf)

set_option maxRecDepth 100000 in
set_option maxHeartbeats 4000000 in
theorem fX12_seesWord_n82_ok {l : Launch} {g : gG} {k33 : Int32 → gM → Option (Int32 × gM)} {r : Int32} {ν : gM} {K : gKt} (h : gR l g cX12_seesWord RX12 2 (some .boolean) (gRm 2 46) (some (.int r)) ν K) (hk33 : ∀ (y1 : Int32) (ν1 : gM), k33 y1 ν1 = some (r, ν) → K 33 [some (.ref (g.1 + 267)), some (.int y1)] [] ν1) {y1 : Int32} {z0 : Int32} {μ : gM} (hf : fX12_seesWord_n82 k33 y1 z0 μ = some (r, ν)) : K 82 [some (.ref (g.1 + 267)), some (.int y1)] [.int z0, .ref (g.1 + 267)] μ := by
  unfold fX12_seesWord_n82 at hf
  refine zp_X12_127 (pc := 82) h gkc_267 dX12_seesWord_82 ?_
  refine zr_mu h (fun μ8 eμ8 => ?_)
  have hf := zLt_s eμ8 hf
  refine zr_aload_n (pc := 85) h dX12_seesWord_85 rfl rfl ?_
  refine zr_dup (pc := 86) h dX12_seesWord_86 rfl ?_
  refine zf_X12_124 (pc := 87) h gkc_267 dX12_seesWord_87 ?_
  refine zr_iconst (pc := 90) (v := (1 : Int32)) h dX12_seesWord_90 (by decide) ?_
  refine zr_iadd (pc := 91) h dX12_seesWord_91 ?_
  refine zp_X12_124 (pc := 92) h gkc_267 dX12_seesWord_92 ?_
  refine zr_mu h (fun μ9 eμ9 => ?_)
  have hf := zLt_s eμ9 hf
  refine zr_goto (pc := 95) (tgt := 33) h dX12_seesWord_95 rfl ?_
  exact zr_weak h [true, true] (hk33 _ _ hf)

set_option maxRecDepth 100000 in
set_option maxHeartbeats 4000000 in
theorem fX12_seesWord_l33_ok {l : Launch} {g : gG} {r : Int32} {ν : gM} {K : gKt} (h : gR l g cX12_seesWord RX12 2 (some .boolean) (gRm 2 46) (some (.int r)) ν K) : ∀ (n : Nat) (y1 : Int32) (μ : gM), fX12_seesWord_l33 n y1 μ = some (r, ν) → K 33 [some (.ref (g.1 + 267)), some (.int y1)] [] μ := by
  intro n
  induction n with
  | zero =>
    intro y1 μ hf
    cases (show (none : Option (Int32 × gM)) = some _ from hf)
  | succ n ih =>
    intro y1 μ hf
    unfold fX12_seesWord_l33 at hf
    refine zr_aload_n (pc := 33) h dX12_seesWord_33 rfl rfl ?_
    refine zr_iload_n (pc := 34) h dX12_seesWord_34 rfl rfl ?_
    refine zr_aload_n (pc := 35) h dX12_seesWord_35 rfl rfl ?_
    refine zf_X12_124 (pc := 36) h gkc_267 dX12_seesWord_36 ?_
    refine zr_iadd (pc := 39) h dX12_seesWord_39 ?_
    obtain ⟨x6, ex6, hf⟩ := zBd_s hf
    refine zm_X12_130 (pc := 40) h gkc_267 ⟨by decide, by decide⟩ (cX12_isLetter_ok ex6) rfl (Nat.le_of_ble_eq_true rfl) dX12_seesWord_40 rfl ?_
    have hf := zIf_s hf
    refine zr_if_eq (pc := 43) (tgt := 98) h dX12_seesWord_43 rfl (fun b12 => ?_) (fun b12 => ?_)
    · have hf := hf.1 b12
      refine zr_aload_n (pc := 98) h dX12_seesWord_98 rfl rfl ?_
      refine zf_X12_124 (pc := 99) h gkc_267 dX12_seesWord_99 ?_
      refine zr_bipush (pc := 102) (v := (7 : Int32)) h dX12_seesWord_102 (by decide) ?_
      have hf := zIf_s hf
      refine zr_icmp_ge (pc := 104) (tgt := 111) h dX12_seesWord_104 rfl (fun b7 => ?_) (fun b7 => ?_)
      · have hf := hf.1 b7
        refine zr_iconst (pc := 111) (v := (0 : Int32)) h dX12_seesWord_111 (by decide) ?_
        exact zr_zret (pc := 112) h rfl dX12_seesWord_112 (zRp hf).1 (zRp hf).2
      · have hf := hf.2 b7
        refine zr_iconst (pc := 107) (v := (1 : Int32)) h dX12_seesWord_107 (by decide) ?_
        refine zr_goto (pc := 108) (tgt := 112) h dX12_seesWord_108 rfl ?_
        exact zr_zret (pc := 112) h rfl dX12_seesWord_112 (zRp hf).1 (zRp hf).2
    · have hf := hf.2 b12
      refine zr_aload_n (pc := 46) h dX12_seesWord_46 rfl rfl ?_
      refine zr_aload_n (pc := 47) h dX12_seesWord_47 rfl rfl ?_
      refine zf_X12_124 (pc := 48) h gkc_267 dX12_seesWord_48 ?_
      refine zr_bipush (pc := 51) (v := (6 : Int32)) h dX12_seesWord_51 (by decide) ?_
      have hf := zIf_s hf
      refine zr_icmp_ge (pc := 53) (tgt := 81) h dX12_seesWord_53 rfl (fun b11 => ?_) (fun b11 => ?_)
      · have hf := hf.1 b11
        refine zr_iconst (pc := 81) (v := (-1 : Int32)) h dX12_seesWord_81 (by decide) ?_
        exact zr_weak h [true, true] (fX12_seesWord_n82_ok h ih hf)
      · have hf := hf.2 b11
        refine zr_bipush (pc := 56) (v := (32 : Int32)) h dX12_seesWord_56 (by decide) ?_
        refine zr_aload_n (pc := 58) h dX12_seesWord_58 rfl rfl ?_
        refine zf_X12_127 (pc := 59) h gkc_267 dX12_seesWord_59 ?_
        refine zr_imul (pc := 62) h dX12_seesWord_62 ?_
        refine zr_aload_n (pc := 63) h dX12_seesWord_63 rfl rfl ?_
        refine zf_X12_7 (pc := 64) h gkc_267 dX12_seesWord_64 ?_
        refine zr_iload_n (pc := 67) h dX12_seesWord_67 rfl rfl ?_
        refine zr_aload_n (pc := 68) h dX12_seesWord_68 rfl rfl ?_
        refine zf_X12_124 (pc := 69) h gkc_267 dX12_seesWord_69 ?_
        refine zr_iadd (pc := 72) h dX12_seesWord_72 ?_
        obtain ⟨q10, hf⟩ := zCk_s hf
        refine zr_bald (pc := 73) h gkc_268 q10 rfl dX12_seesWord_73 ?_
        refine zr_iadd (pc := 74) h dX12_seesWord_74 ?_
        refine zr_bipush (pc := 75) (v := (96 : Int32)) h dX12_seesWord_75 (by decide) ?_
        refine zr_isub (pc := 77) h dX12_seesWord_77 ?_
        refine zr_goto (pc := 78) (tgt := 82) h dX12_seesWord_78 rfl ?_
        exact zr_weak h [true, true] (fX12_seesWord_n82_ok h ih hf)

set_option maxRecDepth 100000 in
set_option maxHeartbeats 4000000 in
theorem cX12_seesWord_ok {l : Launch} {g : gG} {μ : gM} {r : Int32} {ν : gM} (hf : fX12_seesWord μ = some (r, ν)) : gMet l g yX12_seesWord cX12_seesWord 2 (some .boolean) 2 46 [.ref (g.1 + 267)] μ (some (.int r)) ν := by
  refine gMet_of (gIni [.ref (g.1 + 267)] ++ List.replicate 1 none) (by decide) (gIni_ok _ _) (Nat.le_of_ble_eq_true rfl) (fun K h => ?_)
  show K 0 [some (.ref (g.1 + 267)), none] [] μ
  unfold fX12_seesWord at hf
  refine zr_aload_n (pc := 0) h dX12_seesWord_0 rfl rfl ?_
  obtain ⟨x1, μ2, ex1, hf⟩ := zBp_s hf
  refine zm_X12_102 (pc := 1) h gkc_267 ⟨by decide, by decide⟩ (cX12_next_ok ex1) rfl (Nat.le_of_ble_eq_true rfl) dX12_seesWord_1 rfl ?_
  refine zr_istore_n (pc := 4) h dX12_seesWord_4 rfl (by decide) rfl ?_
  refine zr_aload_n (pc := 5) h dX12_seesWord_5 rfl rfl ?_
  refine zr_iconst (pc := 6) (v := (0 : Int32)) h dX12_seesWord_6 (by decide) ?_
  refine zp_X12_124 (pc := 7) h gkc_267 dX12_seesWord_7 ?_
  refine zr_mu h (fun μ3 eμ3 => ?_)
  have hf := zLt_s eμ3 hf
  refine zr_aload_n (pc := 10) h dX12_seesWord_10 rfl rfl ?_
  refine zr_iconst (pc := 11) (v := (0 : Int32)) h dX12_seesWord_11 (by decide) ?_
  refine zp_X12_127 (pc := 12) h gkc_267 dX12_seesWord_12 ?_
  refine zr_mu h (fun μ4 eμ4 => ?_)
  have hf := zLt_s eμ4 hf
  refine zr_aload_n (pc := 15) h dX12_seesWord_15 rfl rfl ?_
  refine zr_iload_n (pc := 16) h dX12_seesWord_16 rfl rfl ?_
  obtain ⟨x5, ex5, hf⟩ := zBd_s hf
  refine zm_X12_130 (pc := 17) h gkc_267 ⟨by decide, by decide⟩ (cX12_isLetter_ok ex5) rfl (Nat.le_of_ble_eq_true rfl) dX12_seesWord_17 rfl ?_
  have hf := zIf_s hf
  refine zr_if_eq (pc := 20) (tgt := 31) h dX12_seesWord_20 rfl (fun b14 => ?_) (fun b14 => ?_)
  · have hf := hf.1 b14
    refine zr_iconst (pc := 31) (v := (0 : Int32)) h dX12_seesWord_31 (by decide) ?_
    exact zr_zret (pc := 32) h rfl dX12_seesWord_32 (zRp hf).1 (zRp hf).2
  · have hf := hf.2 b14
    refine zr_iload_n (pc := 23) h dX12_seesWord_23 rfl rfl ?_
    refine zr_aload_n (pc := 24) h dX12_seesWord_24 rfl rfl ?_
    refine zf_X12_82 (pc := 25) h gkc_267 dX12_seesWord_25 ?_
    have hf := zIf_s hf
    refine zr_icmp_ne (pc := 28) (tgt := 33) h dX12_seesWord_28 rfl (fun b13 => ?_) (fun b13 => ?_)
    · have hf := hf.2 b13
      exact zr_weak h [true, true] (fX12_seesWord_l33_ok h 100000 _ _ hf)
    · have hf := hf.1 b13
      refine zr_iconst (pc := 31) (v := (0 : Int32)) h dX12_seesWord_31 (by decide) ?_
      exact zr_zret (pc := 32) h rfl dX12_seesWord_32 (zRp hf).1 (zRp hf).2

set_option maxRecDepth 100000 in
set_option maxHeartbeats 4000000 in
theorem cX12_isWord_ok {l : Launch} {g : gG} {a1 : Int32} {μ : gM} {r : Int32} {ν : gM} (hf : fX12_isWord a1 μ = some (r, ν)) : gMet l g yX12_isWord cX12_isWord 2 (some .boolean) 3 67 [.ref (g.1 + 267), .int a1] μ (some (.int r)) ν := by
  refine gMet_of (gIni [.ref (g.1 + 267), .int a1] ++ List.replicate 0 none) (by decide) (gIni_ok _ _) (Nat.le_of_ble_eq_true rfl) (fun K h => ?_)
  show K 0 [some (.ref (g.1 + 267)), some (.int a1)] [] μ
  unfold fX12_isWord at hf
  refine zr_aload_n (pc := 0) h dX12_isWord_0 rfl rfl ?_
  obtain ⟨x1, ex1, hf⟩ := zBd_s hf
  refine zm_X12_110 (pc := 1) h gkc_267 ⟨by decide, by decide⟩ (cX12_isFine_ok ex1) rfl (Nat.le_of_ble_eq_true rfl) dX12_isWord_1 rfl ?_
  have hf := zIf_s hf
  refine zr_if_eq (pc := 4) (tgt := 26) h dX12_isWord_4 rfl (fun b6 => ?_) (fun b6 => ?_)
  · have hf := hf.1 b6
    refine zr_iconst (pc := 26) (v := (0 : Int32)) h dX12_isWord_26 (by decide) ?_
    exact zr_zret (pc := 27) h rfl dX12_isWord_27 (zRp hf).1 (zRp hf).2
  · have hf := hf.2 b6
    refine zr_aload_n (pc := 7) h dX12_isWord_7 rfl rfl ?_
    obtain ⟨x2, μ3, ex2, hf⟩ := zBp_s hf
    refine zm_X12_133 (pc := 8) h gkc_267 ⟨by decide, by decide⟩ (cX12_seesWord_ok ex2) rfl (Nat.le_of_ble_eq_true rfl) dX12_isWord_8 rfl ?_
    have hf := zIf_s hf
    refine zr_if_eq (pc := 11) (tgt := 26) h dX12_isWord_11 rfl (fun b5 => ?_) (fun b5 => ?_)
    · have hf := hf.1 b5
      refine zr_iconst (pc := 26) (v := (0 : Int32)) h dX12_isWord_26 (by decide) ?_
      exact zr_zret (pc := 27) h rfl dX12_isWord_27 (zRp hf).1 (zRp hf).2
    · have hf := hf.2 b5
      refine zr_aload_n (pc := 14) h dX12_isWord_14 rfl rfl ?_
      refine zf_X12_127 (pc := 15) h gkc_267 dX12_isWord_15 ?_
      refine zr_iload_n (pc := 18) h dX12_isWord_18 rfl rfl ?_
      have hf := zIf_s hf
      refine zr_icmp_ne (pc := 19) (tgt := 26) h dX12_isWord_19 rfl (fun b4 => ?_) (fun b4 => ?_)
      · have hf := hf.2 b4
        refine zr_iconst (pc := 26) (v := (0 : Int32)) h dX12_isWord_26 (by decide) ?_
        exact zr_zret (pc := 27) h rfl dX12_isWord_27 (zRp hf).1 (zRp hf).2
      · have hf := hf.1 b4
        refine zr_iconst (pc := 22) (v := (1 : Int32)) h dX12_isWord_22 (by decide) ?_
        refine zr_goto (pc := 23) (tgt := 27) h dX12_isWord_23 rfl ?_
        exact zr_zret (pc := 27) h rfl dX12_isWord_27 (zRp hf).1 (zRp hf).2

set_option maxRecDepth 100000 in
set_option maxHeartbeats 4000000 in
theorem cX12_pass_ok {l : Launch} {g : gG} {μ : gM} {ν : gM} (hf : fX12_pass μ = some ν) : gMet l g yX12_pass cX12_pass 1 none 0 0 [.ref (g.1 + 267)] μ none ν := by
  refine gMet_of (gIni [.ref (g.1 + 267)] ++ List.replicate 0 none) (by decide) (gIni_ok _ _) (Nat.le_of_ble_eq_true rfl) (fun K h => ?_)
  show K 0 [some (.ref (g.1 + 267))] [] μ
  unfold fX12_pass at hf
  refine zr_aload_n (pc := 0) h dX12_pass_0 rfl rfl ?_
  refine zr_dup (pc := 1) h dX12_pass_1 rfl ?_
  refine zf_X12_79 (pc := 2) h gkc_267 dX12_pass_2 ?_
  refine zr_aload_n (pc := 5) h dX12_pass_5 rfl rfl ?_
  refine zf_X12_124 (pc := 6) h gkc_267 dX12_pass_6 ?_
  refine zr_iadd (pc := 9) h dX12_pass_9 ?_
  refine zp_X12_79 (pc := 10) h gkc_267 dX12_pass_10 ?_
  refine zr_mu h (fun μ1 eμ1 => ?_)
  have hf := zLt_s eμ1 hf
  refine zr_aload_n (pc := 13) h dX12_pass_13 rfl rfl ?_
  refine zr_aload_n (pc := 14) h dX12_pass_14 rfl rfl ?_
  refine zf_X12_79 (pc := 15) h gkc_267 dX12_pass_15 ?_
  refine zp_X12_82 (pc := 18) h gkc_267 dX12_pass_18 ?_
  refine zr_mu h (fun μ2 eμ2 => ?_)
  have hf := zLt_s eμ2 hf
  exact zr_vret (pc := 21) h dX12_pass_21 rfl (zRv hf)

set_option maxRecDepth 100000 in
set_option maxHeartbeats 4000000 in
theorem cX12_takes_ok {l : Launch} {g : gG} {a1 : Int32} {μ : gM} {r : Int32} {ν : gM} (hf : fX12_takes a1 μ = some (r, ν)) : gMet l g yX12_takes cX12_takes 2 (some .boolean) 4 88 [.ref (g.1 + 267), .int a1] μ (some (.int r)) ν := by
  refine gMet_of (gIni [.ref (g.1 + 267), .int a1] ++ List.replicate 0 none) (by decide) (gIni_ok _ _) (Nat.le_of_ble_eq_true rfl) (fun K h => ?_)
  show K 0 [some (.ref (g.1 + 267)), some (.int a1)] [] μ
  unfold fX12_takes at hf
  refine zr_aload_n (pc := 0) h dX12_takes_0 rfl rfl ?_
  refine zr_iload_n (pc := 1) h dX12_takes_1 rfl rfl ?_
  obtain ⟨x1, μ2, ex1, hf⟩ := zBp_s hf
  refine zm_X12_136 (pc := 2) h gkc_267 ⟨by decide, by decide⟩ (cX12_isWord_ok ex1) rfl (Nat.le_of_ble_eq_true rfl) dX12_takes_2 rfl ?_
  have hf := zIf_s hf
  refine zr_if_ne (pc := 5) (tgt := 10) h dX12_takes_5 rfl (fun b4 => ?_) (fun b4 => ?_)
  · have hf := hf.2 b4
    refine zr_aload_n (pc := 10) h dX12_takes_10 rfl rfl ?_
    obtain ⟨μ3, eμ3, hf⟩ := zBd_s hf
    refine zm_X12_139 (pc := 11) h gkc_267 ⟨by decide, by decide⟩ (cX12_pass_ok eμ3) rfl (Nat.le_of_ble_eq_true rfl) dX12_takes_11 rfl ?_
    refine zr_iconst (pc := 14) (v := (1 : Int32)) h dX12_takes_14 (by decide) ?_
    exact zr_zret (pc := 15) h rfl dX12_takes_15 (zRp hf).1 (zRp hf).2
  · have hf := hf.1 b4
    refine zr_iconst (pc := 8) (v := (0 : Int32)) h dX12_takes_8 (by decide) ?_
    exact zr_zret (pc := 9) h rfl dX12_takes_9 (zRp hf).1 (zRp hf).2

set_option maxRecDepth 100000 in
set_option maxHeartbeats 4000000 in
theorem cX12_asks_ok {l : Launch} {g : gG} {a1 : Int32} {μ : gM} {ν : gM} (hf : fX12_asks a1 μ = some ν) : gMet l g yX12_asks cX12_asks 2 none 5 109 [.ref (g.1 + 267), .int a1] μ none ν := by
  refine gMet_of (gIni [.ref (g.1 + 267), .int a1] ++ List.replicate 0 none) (by decide) (gIni_ok _ _) (Nat.le_of_ble_eq_true rfl) (fun K h => ?_)
  show K 0 [some (.ref (g.1 + 267)), some (.int a1)] [] μ
  unfold fX12_asks at hf
  refine zr_aload_n (pc := 0) h dX12_asks_0 rfl rfl ?_
  obtain ⟨x1, ex1, hf⟩ := zBd_s hf
  refine zm_X12_110 (pc := 1) h gkc_267 ⟨by decide, by decide⟩ (cX12_isFine_ok ex1) rfl (Nat.le_of_ble_eq_true rfl) dX12_asks_1 rfl ?_
  have hf := zIf_s hf
  refine zr_if_eq (pc := 4) (tgt := 19) h dX12_asks_4 rfl (fun b6 => ?_) (fun b6 => ?_)
  · have hf := hf.1 b6
    exact zr_vret (pc := 19) h dX12_asks_19 rfl (zRv hf)
  · have hf := hf.2 b6
    refine zr_aload_n (pc := 7) h dX12_asks_7 rfl rfl ?_
    refine zr_iload_n (pc := 8) h dX12_asks_8 rfl rfl ?_
    obtain ⟨x2, μ3, ex2, hf⟩ := zBp_s hf
    refine zm_X12_142 (pc := 9) h gkc_267 ⟨by decide, by decide⟩ (cX12_takes_ok ex2) rfl (Nat.le_of_ble_eq_true rfl) dX12_asks_9 rfl ?_
    have hf := zIf_s hf
    refine zr_if_ne (pc := 12) (tgt := 19) h dX12_asks_12 rfl (fun b5 => ?_) (fun b5 => ?_)
    · have hf := hf.2 b5
      exact zr_vret (pc := 19) h dX12_asks_19 rfl (zRv hf)
    · have hf := hf.1 b5
      refine zr_aload_n (pc := 15) h dX12_asks_15 rfl rfl ?_
      obtain ⟨μ4, eμ4, hf⟩ := zBd_s hf
      refine zm_X12_121 (pc := 16) h gkc_267 ⟨by decide, by decide⟩ (cX12_unlike_ok eμ4) rfl (Nat.le_of_ble_eq_true rfl) dX12_asks_16 rfl ?_
      exact zr_vret (pc := 19) h dX12_asks_19 rfl (zRv hf)

set_option maxRecDepth 100000 in
set_option maxHeartbeats 4000000 in
theorem cX12_isName_ok {l : Launch} {g : gG} {μ : gM} {r : Int32} {ν : gM} (hf : fX12_isName μ = some (r, ν)) : gMet l g yX12_isName cX12_isName 1 (some .boolean) 3 67 [.ref (g.1 + 267)] μ (some (.int r)) ν := by
  refine gMet_of (gIni [.ref (g.1 + 267)] ++ List.replicate 0 none) (by decide) (gIni_ok _ _) (Nat.le_of_ble_eq_true rfl) (fun K h => ?_)
  show K 0 [some (.ref (g.1 + 267))] [] μ
  unfold fX12_isName at hf
  refine zr_aload_n (pc := 0) h dX12_isName_0 rfl rfl ?_
  obtain ⟨x1, ex1, hf⟩ := zBd_s hf
  refine zm_X12_110 (pc := 1) h gkc_267 ⟨by decide, by decide⟩ (cX12_isFine_ok ex1) rfl (Nat.le_of_ble_eq_true rfl) dX12_isName_1 rfl ?_
  have hf := zIf_s hf
  refine zr_if_eq (pc := 4) (tgt := 28) h dX12_isName_4 rfl (fun b7 => ?_) (fun b7 => ?_)
  · have hf := hf.1 b7
    refine zr_iconst (pc := 28) (v := (0 : Int32)) h dX12_isName_28 (by decide) ?_
    exact zr_zret (pc := 29) h rfl dX12_isName_29 (zRp hf).1 (zRp hf).2
  · have hf := hf.2 b7
    refine zr_aload_n (pc := 7) h dX12_isName_7 rfl rfl ?_
    obtain ⟨x2, μ3, ex2, hf⟩ := zBp_s hf
    refine zm_X12_133 (pc := 8) h gkc_267 ⟨by decide, by decide⟩ (cX12_seesWord_ok ex2) rfl (Nat.le_of_ble_eq_true rfl) dX12_isName_8 rfl ?_
    have hf := zIf_s hf
    refine zr_if_eq (pc := 11) (tgt := 28) h dX12_isName_11 rfl (fun b6 => ?_) (fun b6 => ?_)
    · have hf := hf.1 b6
      refine zr_iconst (pc := 28) (v := (0 : Int32)) h dX12_isName_28 (by decide) ?_
      exact zr_zret (pc := 29) h rfl dX12_isName_29 (zRp hf).1 (zRp hf).2
    · have hf := hf.2 b6
      refine zr_aload_n (pc := 14) h dX12_isName_14 rfl rfl ?_
      refine zf_X12_127 (pc := 15) h gkc_267 dX12_isName_15 ?_
      obtain ⟨x4, ex4, hf⟩ := zBd_s hf
      refine zm_X12_145 (pc := 18) h ⟨by decide, by decide⟩ (cX12_isOwn_ok ex4) rfl (Nat.le_of_ble_eq_true rfl) dX12_isName_18 rfl ?_
      have hf := zIf_s hf
      refine zr_if_ne (pc := 21) (tgt := 28) h dX12_isName_21 rfl (fun b5 => ?_) (fun b5 => ?_)
      · have hf := hf.2 b5
        refine zr_iconst (pc := 28) (v := (0 : Int32)) h dX12_isName_28 (by decide) ?_
        exact zr_zret (pc := 29) h rfl dX12_isName_29 (zRp hf).1 (zRp hf).2
      · have hf := hf.1 b5
        refine zr_iconst (pc := 24) (v := (1 : Int32)) h dX12_isName_24 (by decide) ?_
        refine zr_goto (pc := 25) (tgt := 29) h dX12_isName_25 rfl ?_
        exact zr_zret (pc := 29) h rfl dX12_isName_29 (zRp hf).1 (zRp hf).2

set_option maxRecDepth 100000 in
set_option maxHeartbeats 4000000 in
theorem fX12_number_l75_ok {l : Launch} {g : gG} {r : Int32} {ν : gM} {K : gKt} (h : gR l g cX12_number RX12 7 (some .int) (gRm 2 46) (some (.int r)) ν K) : ∀ (n : Nat) (y1 : Int32) (y2 : Int32) (y3 : Int32) (y4 : Int32) (y5 : Int32) (y6 : Int32) (μ : gM), fX12_number_l75 n y1 y2 y3 y4 y5 y6 μ = some (r, ν) → K 75 [some (.ref (g.1 + 267)), some (.int y1), some (.int y2), some (.int y3), some (.int y4), some (.int y5), some (.int y6)] [] μ := by
  intro n
  induction n with
  | zero =>
    intro y1 y2 y3 y4 y5 y6 μ hf
    cases (show (none : Option (Int32 × gM)) = some _ from hf)
  | succ n ih =>
    intro y1 y2 y3 y4 y5 y6 μ hf
    unfold fX12_number_l75 at hf
    refine zr_iload (pc := 75) h dX12_number_75 rfl ?_
    refine zr_iload (pc := 77) h dX12_number_77 rfl ?_
    have hf := zIf_s hf
    refine zr_icmp_ge (pc := 79) (tgt := 108) h dX12_number_79 rfl (fun b15 => ?_) (fun b15 => ?_)
    · have hf := hf.1 b15
      refine zr_aload_n (pc := 108) h dX12_number_108 rfl rfl ?_
      refine zr_iload_n (pc := 109) h dX12_number_109 rfl rfl ?_
      refine zr_iload (pc := 110) h dX12_number_110 rfl ?_
      refine zr_iadd (pc := 112) h dX12_number_112 ?_
      refine zp_X12_79 (pc := 113) h gkc_267 dX12_number_113 ?_
      refine zr_mu h (fun μ7 eμ7 => ?_)
      have hf := zLt_s eμ7 hf
      refine zr_aload_n (pc := 116) h dX12_number_116 rfl rfl ?_
      refine zr_aload_n (pc := 117) h dX12_number_117 rfl rfl ?_
      refine zf_X12_79 (pc := 118) h gkc_267 dX12_number_118 ?_
      refine zp_X12_82 (pc := 121) h gkc_267 dX12_number_121 ?_
      refine zr_mu h (fun μ8 eμ8 => ?_)
      have hf := zLt_s eμ8 hf
      refine zr_iload (pc := 124) h dX12_number_124 rfl ?_
      refine zr_i2l (pc := 126) h dX12_number_126 ?_
      refine zr_iload_n (pc := 127) h dX12_number_127 rfl rfl ?_
      refine zr_i2l (pc := 128) h dX12_number_128 ?_
      refine zr_iload_n (pc := 129) h dX12_number_129 rfl rfl ?_
      refine zr_i2l (pc := 130) h dX12_number_130 ?_
      obtain ⟨x9, ex9, hf⟩ := zBd_s hf
      refine zm_X12_56 (pc := 131) h ⟨by decide, by decide⟩ (cX12_isIn_ok ex9) rfl (Nat.le_of_ble_eq_true rfl) dX12_number_131 rfl ?_
      have hf := zIf_s hf
      refine zr_if_ne (pc := 134) (tgt := 143) h dX12_number_134 rfl (fun b11 => ?_) (fun b11 => ?_)
      · have hf := hf.2 b11
        refine zr_iload (pc := 143) h dX12_number_143 rfl ?_
        exact zr_iret (pc := 145) h dX12_number_145 (zRp hf).1 (zRp hf).2
      · have hf := hf.1 b11
        refine zr_aload_n (pc := 137) h dX12_number_137 rfl rfl ?_
        refine zr_iconst (pc := 138) (v := (4 : Int32)) h dX12_number_138 (by decide) ?_
        refine zr_iload_n (pc := 139) h dX12_number_139 rfl rfl ?_
        obtain ⟨μ10, eμ10, hf⟩ := zBd_s hf
        refine zm_X12_106 (pc := 140) h gkc_267 ⟨by decide, by decide⟩ (cX12_fail_ok eμ10) rfl (Nat.le_of_ble_eq_true rfl) dX12_number_140 rfl ?_
        refine zr_iload (pc := 143) h dX12_number_143 rfl ?_
        exact zr_iret (pc := 145) h dX12_number_145 (zRp hf).1 (zRp hf).2
    · have hf := hf.2 b15
      refine zr_bipush (pc := 82) (v := (10 : Int32)) h dX12_number_82 (by decide) ?_
      refine zr_iload (pc := 84) h dX12_number_84 rfl ?_
      refine zr_imul (pc := 86) h dX12_number_86 ?_
      refine zr_aload_n (pc := 87) h dX12_number_87 rfl rfl ?_
      refine zf_X12_7 (pc := 88) h gkc_267 dX12_number_88 ?_
      refine zr_iload_n (pc := 91) h dX12_number_91 rfl rfl ?_
      refine zr_iload (pc := 92) h dX12_number_92 rfl ?_
      refine zr_iadd (pc := 94) h dX12_number_94 ?_
      obtain ⟨q12, hf⟩ := zCk_s hf
      refine zr_bald (pc := 95) h gkc_268 q12 rfl dX12_number_95 ?_
      refine zr_iadd (pc := 96) h dX12_number_96 ?_
      refine zr_bipush (pc := 97) (v := (48 : Int32)) h dX12_number_97 (by decide) ?_
      refine zr_isub (pc := 99) h dX12_number_99 ?_
      refine zr_topi h (fun x13 ex13 => ?_)
      have hf := zLt_s ex13 hf
      refine zr_istore (pc := 100) h dX12_number_100 (by decide) rfl ?_
      refine zr_iincx (pc := 102) h dX12_number_102 rfl (by decide) rfl (c := (1 : Int32)) (by decide) (fun x14 ex14 => ?_)
      have hf := zLt_s ex14 hf
      refine zr_goto (pc := 105) (tgt := 75) h dX12_number_105 rfl ?_
      exact zr_weak h [true, true, true, true, true, true, true] (ih _ _ _ _ _ _ _ hf)

set_option maxRecDepth 100000 in
set_option maxHeartbeats 4000000 in
theorem fX12_number_n60_ok {l : Launch} {g : gG} {r : Int32} {ν : gM} {K : gKt} (h : gR l g cX12_number RX12 7 (some .int) (gRm 2 46) (some (.int r)) ν K) {y1 : Int32} {y2 : Int32} {y3 : Int32} {y4 : Int32} {μ : gM} (hf : fX12_number_n60 y1 y2 y3 y4 μ = some (r, ν)) : K 60 [some (.ref (g.1 + 267)), some (.int y1), some (.int y2), some (.int y3), some (.int y4), none, none] [] μ := by
  unfold fX12_number_n60 at hf
  refine zr_aload_n (pc := 60) h dX12_number_60 rfl rfl ?_
  obtain ⟨x6, ex6, hf⟩ := zBd_s hf
  refine zm_X12_110 (pc := 61) h gkc_267 ⟨by decide, by decide⟩ (cX12_isFine_ok ex6) rfl (Nat.le_of_ble_eq_true rfl) dX12_number_61 rfl ?_
  have hf := zIf_s hf
  refine zr_if_ne (pc := 64) (tgt := 69) h dX12_number_64 rfl (fun b16 => ?_) (fun b16 => ?_)
  · have hf := hf.2 b16
    refine zr_iconst (pc := 69) (v := (0 : Int32)) h dX12_number_69 (by decide) ?_
    refine zr_istore (pc := 70) h dX12_number_70 (by decide) rfl ?_
    refine zr_iconst (pc := 72) (v := (0 : Int32)) h dX12_number_72 (by decide) ?_
    refine zr_istore (pc := 73) h dX12_number_73 (by decide) rfl ?_
    exact zr_weak h [true, true, true, true, true, true, true] (fX12_number_l75_ok h 100000 _ _ _ _ _ _ _ hf)
  · have hf := hf.1 b16
    refine zr_iload_n (pc := 67) h dX12_number_67 rfl rfl ?_
    exact zr_iret (pc := 68) h dX12_number_68 (zRp hf).1 (zRp hf).2

set_option maxRecDepth 100000 in
set_option maxHeartbeats 4000000 in
theorem fX12_number_n56_ok {l : Launch} {g : gG} {r : Int32} {ν : gM} {K : gKt} (h : gR l g cX12_number RX12 7 (some .int) (gRm 2 46) (some (.int r)) ν K) {y1 : Int32} {y2 : Int32} {y3 : Int32} {y4 : Int32} {μ : gM} (hf : fX12_number_n56 y1 y2 y3 y4 μ = some (r, ν)) : K 56 [some (.ref (g.1 + 267)), some (.int y1), some (.int y2), some (.int y3), some (.int y4), none, none] [] μ := by
  unfold fX12_number_n56 at hf
  refine zr_aload_n (pc := 56) h dX12_number_56 rfl rfl ?_
  obtain ⟨μ17, eμ17, hf⟩ := zBd_s hf
  refine zm_X12_121 (pc := 57) h gkc_267 ⟨by decide, by decide⟩ (cX12_unlike_ok eμ17) rfl (Nat.le_of_ble_eq_true rfl) dX12_number_57 rfl ?_
  exact zr_weak h [true, true, true, true, true, false, false] (fX12_number_n60_ok h hf)

set_option maxRecDepth 100000 in
set_option maxHeartbeats 4000000 in
theorem fX12_number_l13_ok {l : Launch} {g : gG} {r : Int32} {ν : gM} {K : gKt} (h : gR l g cX12_number RX12 7 (some .int) (gRm 2 46) (some (.int r)) ν K) : ∀ (n : Nat) (y1 : Int32) (y2 : Int32) (y3 : Int32) (y4 : Int32) (μ : gM), fX12_number_l13 n y1 y2 y3 y4 μ = some (r, ν) → K 13 [some (.ref (g.1 + 267)), some (.int y1), some (.int y2), some (.int y3), some (.int y4), none, none] [] μ := by
  intro n
  induction n with
  | zero =>
    intro y1 y2 y3 y4 μ hf
    cases (show (none : Option (Int32 × gM)) = some _ from hf)
  | succ n ih =>
    intro y1 y2 y3 y4 μ hf
    unfold fX12_number_l13 at hf
    refine zr_aload_n (pc := 13) h dX12_number_13 rfl rfl ?_
    refine zr_iload_n (pc := 14) h dX12_number_14 rfl rfl ?_
    refine zr_iload (pc := 15) h dX12_number_15 rfl ?_
    refine zr_iadd (pc := 17) h dX12_number_17 ?_
    obtain ⟨x4, ex4, hf⟩ := zBd_s hf
    refine zm_X12_151 (pc := 18) h gkc_267 ⟨by decide, by decide⟩ (cX12_isDigit_ok ex4) rfl (Nat.le_of_ble_eq_true rfl) dX12_number_18 rfl ?_
    have hf := zIf_s hf
    refine zr_if_eq (pc := 21) (tgt := 30) h dX12_number_21 rfl (fun b23 => ?_) (fun b23 => ?_)
    · have hf := hf.1 b23
      refine zr_aload_n (pc := 30) h dX12_number_30 rfl rfl ?_
      obtain ⟨x5, ex5, hf⟩ := zBd_s hf
      refine zm_X12_110 (pc := 31) h gkc_267 ⟨by decide, by decide⟩ (cX12_isFine_ok ex5) rfl (Nat.le_of_ble_eq_true rfl) dX12_number_31 rfl ?_
      have hf := zIf_s hf
      refine zr_if_eq (pc := 34) (tgt := 60) h dX12_number_34 rfl (fun b21 => ?_) (fun b21 => ?_)
      · have hf := hf.1 b21
        exact zr_weak h [true, true, true, true, true, false, false] (fX12_number_n60_ok h hf)
      · have hf := hf.2 b21
        refine zr_iload (pc := 37) h dX12_number_37 rfl ?_
        have hf := zIf_s hf
        refine zr_if_eq (pc := 39) (tgt := 56) h dX12_number_39 rfl (fun b20 => ?_) (fun b20 => ?_)
        · have hf := hf.1 b20
          exact zr_weak h [true, true, true, true, true, false, false] (fX12_number_n56_ok h hf)
        · have hf := hf.2 b20
          refine zr_iload (pc := 42) h dX12_number_42 rfl ?_
          refine zr_iconst (pc := 44) (v := (4 : Int32)) h dX12_number_44 (by decide) ?_
          have hf := zIf_s hf
          refine zr_icmp_gt (pc := 45) (tgt := 56) h dX12_number_45 rfl (fun b19 => ?_) (fun b19 => ?_)
          · have hf := hf.1 b19
            exact zr_weak h [true, true, true, true, true, false, false] (fX12_number_n56_ok h hf)
          · have hf := hf.2 b19
            refine zr_iload_n (pc := 48) h dX12_number_48 rfl rfl ?_
            refine zr_aload_n (pc := 49) h dX12_number_49 rfl rfl ?_
            refine zf_X12_82 (pc := 50) h gkc_267 dX12_number_50 ?_
            have hf := zIf_s hf
            refine zr_icmp_ne (pc := 53) (tgt := 60) h dX12_number_53 rfl (fun b18 => ?_) (fun b18 => ?_)
            · have hf := hf.2 b18
              exact zr_weak h [true, true, true, true, true, false, false] (fX12_number_n60_ok h hf)
            · have hf := hf.1 b18
              exact zr_weak h [true, true, true, true, true, false, false] (fX12_number_n56_ok h hf)
    · have hf := hf.2 b23
      refine zr_iincx (pc := 24) h dX12_number_24 rfl (by decide) rfl (c := (1 : Int32)) (by decide) (fun x22 ex22 => ?_)
      have hf := zLt_s ex22 hf
      refine zr_goto (pc := 27) (tgt := 13) h dX12_number_27 rfl ?_
      exact zr_weak h [true, true, true, true, true, false, false] (ih _ _ _ _ _ hf)

set_option maxRecDepth 100000 in
set_option maxHeartbeats 4000000 in
theorem cX12_number_ok {l : Launch} {g : gG} {a1 : Int32} {a2 : Int32} {μ : gM} {r : Int32} {ν : gM} (hf : fX12_number a1 a2 μ = some (r, ν)) : gMet l g yX12_number cX12_number 7 (some .int) 2 46 [.ref (g.1 + 267), .int a1, .int a2] μ (some (.int r)) ν := by
  refine gMet_of (gIni [.ref (g.1 + 267), .int a1, .int a2] ++ List.replicate 4 none) (by decide) (gIni_ok _ _) (Nat.le_of_ble_eq_true rfl) (fun K h => ?_)
  show K 0 [some (.ref (g.1 + 267)), some (.int a1), some (.int a2), none, none, none, none] [] μ
  unfold fX12_number at hf
  refine zr_aload_n (pc := 0) h dX12_number_0 rfl rfl ?_
  obtain ⟨x1, μ2, ex1, hf⟩ := zBp_s hf
  refine zm_X12_102 (pc := 1) h gkc_267 ⟨by decide, by decide⟩ (cX12_next_ok ex1) rfl (Nat.le_of_ble_eq_true rfl) dX12_number_1 rfl ?_
  refine zr_istore_n (pc := 4) h dX12_number_4 rfl (by decide) rfl ?_
  refine zr_aload_n (pc := 5) h dX12_number_5 rfl rfl ?_
  refine zr_iload_n (pc := 6) h dX12_number_6 rfl rfl ?_
  refine zp_X12_148 (pc := 7) h gkc_267 dX12_number_7 ?_
  refine zr_mu h (fun μ3 eμ3 => ?_)
  have hf := zLt_s eμ3 hf
  refine zr_iconst (pc := 10) (v := (0 : Int32)) h dX12_number_10 (by decide) ?_
  refine zr_istore (pc := 11) h dX12_number_11 (by decide) rfl ?_
  exact zr_weak h [true, true, true, true, true, false, false] (fX12_number_l13_ok h 100000 _ _ _ _ _ hf)

set_option maxRecDepth 100000 in
set_option maxHeartbeats 4000000 in
theorem cX12_mostOf_ok {l : Launch} {g : gG} {a1 : Int32} {μ : gM} {r : Int32} (hf : fX12_mostOf a1 μ = some r) : gMet l g yX12_mostOf cX12_mostOf 1 (some .int) 0 0 [.int a1] μ (some (.int r)) μ := by
  refine gMet_of (gIni [.int a1] ++ List.replicate 0 none) (by decide) (gIni_ok _ _) (Nat.le_of_ble_eq_true rfl) (fun K h => ?_)
  show K 0 [some (.int a1)] [] μ
  unfold fX12_mostOf at hf
  refine zr_iload_n (pc := 0) h dX12_mostOf_0 rfl rfl ?_
  have hf := zIf_s hf
  refine zr_if_ne (pc := 1) (tgt := 9) h dX12_mostOf_1 rfl (fun b2 => ?_) (fun b2 => ?_)
  · have hf := hf.2 b2
    refine zr_iload_n (pc := 9) h dX12_mostOf_9 rfl rfl ?_
    refine zr_iconst (pc := 10) (v := (1 : Int32)) h dX12_mostOf_10 (by decide) ?_
    have hf := zIf_s hf
    refine zr_icmp_ne (pc := 11) (tgt := 19) h dX12_mostOf_11 rfl (fun b1 => ?_) (fun b1 => ?_)
    · have hf := hf.2 b1
      refine zr_iconst (pc := 19) (v := (5 : Int32)) h dX12_mostOf_19 (by decide) ?_
      exact zr_iret (pc := 20) h dX12_mostOf_20 (zRi hf) rfl
    · have hf := hf.1 b1
      refine zr_bipush (pc := 14) (v := (8 : Int32)) h dX12_mostOf_14 (by decide) ?_
      refine zr_goto (pc := 16) (tgt := 20) h dX12_mostOf_16 rfl ?_
      exact zr_iret (pc := 20) h dX12_mostOf_20 (zRi hf) rfl
  · have hf := hf.1 b2
    refine zr_bipush (pc := 4) (v := (6 : Int32)) h dX12_mostOf_4 (by decide) ?_
    refine zr_goto (pc := 6) (tgt := 20) h dX12_mostOf_6 rfl ?_
    exact zr_iret (pc := 20) h dX12_mostOf_20 (zRi hf) rfl

set_option maxRecDepth 100000 in
set_option maxHeartbeats 4000000 in
theorem cX12_of_ok {l : Launch} {g : gG} {a1 : Int32} {a2 : Int32} {μ : gM} {r : Int32} (hf : fX12_of a1 a2 μ = some r) : gMet l g yX12_of cX12_of 2 (some .int) 0 0 [.int a1, .int a2] μ (some (.int r)) μ := by
  refine gMet_of (gIni [.int a1, .int a2] ++ List.replicate 0 none) (by decide) (gIni_ok _ _) (Nat.le_of_ble_eq_true rfl) (fun K h => ?_)
  show K 0 [some (.int a1), some (.int a2)] [] μ
  unfold fX12_of at hf
  refine zr_bipush (pc := 0) (v := (6 : Int32)) h dX12_of_0 (by decide) ?_
  refine zr_iload_n (pc := 2) h dX12_of_2 rfl rfl ?_
  refine zr_imul (pc := 3) h dX12_of_3 ?_
  refine zr_iload_n (pc := 4) h dX12_of_4 rfl rfl ?_
  refine zr_iadd (pc := 5) h dX12_of_5 ?_
  exact zr_iret (pc := 6) h dX12_of_6 (zRi hf) rfl

set_option maxRecDepth 100000 in
set_option maxHeartbeats 4000000 in
theorem fX12_nameOf_l2_ok {l : Launch} {g : gG} {p1 : Nat} {r : Int32} {μe : gM} {K : gKt} (h : gR l g cX12_nameOf RX12 4 (some .int) (gRm 0 0) (some (.int r)) μe K) (h1 : gk p1 = (1, 209)) : ∀ (n : Nat) (y1 : Int32) (y2 : Int32) (y3 : Int32), fX12_nameOf_l2 p1 n y1 y2 y3 μe = some r → K 2 [some (.ref (g.1 + p1)), some (.int y1), some (.int y2), some (.int y3)] [] μe := by
  intro n
  induction n with
  | zero =>
    intro y1 y2 y3 hf
    cases (show (none : Option Int32) = some _ from hf)
  | succ n ih =>
    intro y1 y2 y3 hf
    unfold fX12_nameOf_l2 at hf
    refine zr_iload_n (pc := 2) h dX12_nameOf_2 rfl rfl ?_
    refine zr_aload_n (pc := 3) h dX12_nameOf_3 rfl rfl ?_
    refine zr_iconst (pc := 4) (v := (0 : Int32)) h dX12_nameOf_4 (by decide) ?_
    refine zr_iload_n (pc := 5) h dX12_nameOf_5 rfl rfl ?_
    refine zr_iadd (pc := 6) h dX12_nameOf_6 ?_
    obtain ⟨q1, hf⟩ := zCk_s hf
    refine zr_iald (pc := 7) h h1 q1 rfl dX12_nameOf_7 ?_
    have hf := zIf_s hf
    refine zr_icmp_ge (pc := 8) (tgt := 33) h dX12_nameOf_8 rfl (fun b5 => ?_) (fun b5 => ?_)
    · have hf := hf.1 b5
      refine zr_iconst (pc := 33) (v := (-1 : Int32)) h dX12_nameOf_33 (by decide) ?_
      exact zr_iret (pc := 34) h dX12_nameOf_34 (zRi hf) rfl
    · have hf := hf.2 b5
      refine zr_aload_n (pc := 11) h dX12_nameOf_11 rfl rfl ?_
      refine zr_iconst (pc := 12) (v := (4 : Int32)) h dX12_nameOf_12 (by decide) ?_
      refine zr_bipush (pc := 13) (v := (8 : Int32)) h dX12_nameOf_13 (by decide) ?_
      refine zr_iload_n (pc := 15) h dX12_nameOf_15 rfl rfl ?_
      refine zr_imul (pc := 16) h dX12_nameOf_16 ?_
      refine zr_iadd (pc := 17) h dX12_nameOf_17 ?_
      refine zr_iload_n (pc := 18) h dX12_nameOf_18 rfl rfl ?_
      refine zr_iadd (pc := 19) h dX12_nameOf_19 ?_
      obtain ⟨q2, hf⟩ := zCk_s hf
      refine zr_iald (pc := 20) h h1 q2 rfl dX12_nameOf_20 ?_
      refine zr_iload_n (pc := 21) h dX12_nameOf_21 rfl rfl ?_
      have hf := zIf_s hf
      refine zr_icmp_ne (pc := 22) (tgt := 27) h dX12_nameOf_22 rfl (fun b4 => ?_) (fun b4 => ?_)
      · have hf := hf.2 b4
        refine zr_iincx (pc := 27) h dX12_nameOf_27 rfl (by decide) rfl (c := (1 : Int32)) (by decide) (fun x3 ex3 => ?_)
        have hf := zLt_s ex3 hf
        refine zr_goto (pc := 30) (tgt := 2) h dX12_nameOf_30 rfl ?_
        exact zr_weak h [true, true, true, true] (ih _ _ _ hf)
      · have hf := hf.1 b4
        refine zr_iload_n (pc := 25) h dX12_nameOf_25 rfl rfl ?_
        exact zr_iret (pc := 26) h dX12_nameOf_26 (zRi hf) rfl

set_option maxRecDepth 100000 in
set_option maxHeartbeats 4000000 in
theorem cX12_nameOf_ok {l : Launch} {g : gG} {p1 : Nat} {a2 : Int32} {a3 : Int32} {μ : gM} {r : Int32} (h1 : gk p1 = (1, 209)) (hf : fX12_nameOf p1 a2 a3 μ = some r) : gMet l g yX12_nameOf cX12_nameOf 4 (some .int) 0 0 [.ref (g.1 + p1), .int a2, .int a3] μ (some (.int r)) μ := by
  refine gMet_of (gIni [.ref (g.1 + p1), .int a2, .int a3] ++ List.replicate 1 none) (by decide) (gIni_ok _ _) (Nat.le_of_ble_eq_true rfl) (fun K h => ?_)
  show K 0 [some (.ref (g.1 + p1)), some (.int a2), some (.int a3), none] [] μ
  unfold fX12_nameOf at hf
  refine zr_iconst (pc := 0) (v := (0 : Int32)) h dX12_nameOf_0 (by decide) ?_
  refine zr_istore_n (pc := 1) h dX12_nameOf_1 rfl (by decide) rfl ?_
  exact zr_weak h [true, true, true, true] (fX12_nameOf_l2_ok h h1 100000 _ _ _ hf)

set_option maxRecDepth 100000 in
set_option maxHeartbeats 4000000 in
theorem fX12_newRead_n101_ok {l : Launch} {g : gG} {r : Int32} {ν : gM} {K : gKt} (h : gR l g cX12_newRead RX12 5 (some .int) (gRm 4 87) (some (.int r)) ν K) {y1 : Int32} {y2 : Int32} {μ : gM} (hf : fX12_newRead_n101 y1 y2 μ = some (r, ν)) : K 101 [some (.ref (g.1 + 267)), some (.int y1), some (.int y2), none, none] [] μ := by
  unfold fX12_newRead_n101 at hf
  refine zr_aload_n (pc := 101) h dX12_newRead_101 rfl rfl ?_
  obtain ⟨x10, ex10, hf⟩ := zBd_s hf
  refine zm_X12_110 (pc := 102) h gkc_267 ⟨by decide, by decide⟩ (cX12_isFine_ok ex10) rfl (Nat.le_of_ble_eq_true rfl) dX12_newRead_102 rfl ?_
  have hf := zIf_s hf
  refine zr_if_ne (pc := 105) (tgt := 110) h dX12_newRead_105 rfl (fun b14 => ?_) (fun b14 => ?_)
  · have hf := hf.2 b14
    refine zr_aload_n (pc := 110) h dX12_newRead_110 rfl rfl ?_
    refine zf_X12_21 (pc := 111) h gkc_267 dX12_newRead_111 ?_
    refine zr_iconst (pc := 114) (v := (4 : Int32)) h dX12_newRead_114 (by decide) ?_
    refine zr_bipush (pc := 115) (v := (8 : Int32)) h dX12_newRead_115 (by decide) ?_
    refine zr_iload_n (pc := 117) h dX12_newRead_117 rfl rfl ?_
    refine zr_imul (pc := 118) h dX12_newRead_118 ?_
    refine zr_iadd (pc := 119) h dX12_newRead_119 ?_
    refine zr_iload_n (pc := 120) h dX12_newRead_120 rfl rfl ?_
    refine zr_iadd (pc := 121) h dX12_newRead_121 ?_
    refine zr_aload_n (pc := 122) h dX12_newRead_122 rfl rfl ?_
    refine zf_X12_127 (pc := 123) h gkc_267 dX12_newRead_123 ?_
    obtain ⟨q11, hf⟩ := zCk_s hf
    refine zr_iast (pc := 126) h gkc_270 q11 rfl dX12_newRead_126 ?_
    refine zr_mu h (fun μ12 eμ12 => ?_)
    have hf := zLt_s eμ12 hf
    refine zr_aload_n (pc := 127) h dX12_newRead_127 rfl rfl ?_
    obtain ⟨μ13, eμ13, hf⟩ := zBd_s hf
    refine zm_X12_139 (pc := 128) h gkc_267 ⟨by decide, by decide⟩ (cX12_pass_ok eμ13) rfl (Nat.le_of_ble_eq_true rfl) dX12_newRead_128 rfl ?_
    refine zr_iload_n (pc := 131) h dX12_newRead_131 rfl rfl ?_
    exact zr_iret (pc := 132) h dX12_newRead_132 (zRp hf).1 (zRp hf).2
  · have hf := hf.1 b14
    refine zr_iconst (pc := 108) (v := (0 : Int32)) h dX12_newRead_108 (by decide) ?_
    exact zr_iret (pc := 109) h dX12_newRead_109 (zRp hf).1 (zRp hf).2

set_option maxRecDepth 100000 in
set_option maxHeartbeats 4000000 in
theorem fX12_newRead_l59_ok {l : Launch} {g : gG} {r : Int32} {ν : gM} {K : gKt} (h : gR l g cX12_newRead RX12 5 (some .int) (gRm 4 87) (some (.int r)) ν K) : ∀ (n : Nat) (y1 : Int32) (y2 : Int32) (y3 : Int32) (y4 : Int32) (μ : gM), fX12_newRead_l59 n y1 y2 y3 y4 μ = some (r, ν) → K 59 [some (.ref (g.1 + 267)), some (.int y1), some (.int y2), some (.int y3), some (.int y4)] [] μ := by
  intro n
  induction n with
  | zero =>
    intro y1 y2 y3 y4 μ hf
    cases (show (none : Option (Int32 × gM)) = some _ from hf)
  | succ n ih =>
    intro y1 y2 y3 y4 μ hf
    unfold fX12_newRead_l59 at hf
    refine zr_iload (pc := 59) h dX12_newRead_59 rfl ?_
    refine zr_iconst (pc := 61) (v := (2 : Int32)) h dX12_newRead_61 (by decide) ?_
    have hf := zIf_s hf
    refine zr_icmp_gt (pc := 62) (tgt := 101) h dX12_newRead_62 rfl (fun b22 => ?_) (fun b22 => ?_)
    · have hf := hf.1 b22
      exact zr_weak h [true, true, true, false, false] (fX12_newRead_n101_ok h hf)
    · have hf := hf.2 b22
      refine zr_aload_n (pc := 65) h dX12_newRead_65 rfl rfl ?_
      obtain ⟨x15, ex15, hf⟩ := zBd_s hf
      refine zm_X12_110 (pc := 66) h gkc_267 ⟨by decide, by decide⟩ (cX12_isFine_ok ex15) rfl (Nat.le_of_ble_eq_true rfl) dX12_newRead_66 rfl ?_
      have hf := zIf_s hf
      refine zr_if_eq (pc := 69) (tgt := 101) h dX12_newRead_69 rfl (fun b21 => ?_) (fun b21 => ?_)
      · have hf := hf.1 b21
        exact zr_weak h [true, true, true, false, false] (fX12_newRead_n101_ok h hf)
      · have hf := hf.2 b21
        refine zr_aload_n (pc := 72) h dX12_newRead_72 rfl rfl ?_
        refine zf_X12_21 (pc := 73) h gkc_267 dX12_newRead_73 ?_
        refine zr_iload (pc := 76) h dX12_newRead_76 rfl ?_
        refine zr_aload_n (pc := 78) h dX12_newRead_78 rfl rfl ?_
        refine zf_X12_127 (pc := 79) h gkc_267 dX12_newRead_79 ?_
        obtain ⟨x16, ex16, hf⟩ := zBd_s hf
        refine zm_X12_161 (pc := 82) h ⟨by decide, by decide⟩ (cX12_nameOf_ok gkc_270 ex16) rfl (Nat.le_of_ble_eq_true rfl) dX12_newRead_82 rfl ?_
        refine zr_iconst (pc := 85) (v := (-1 : Int32)) h dX12_newRead_85 (by decide) ?_
        have hf := zIf_s hf
        refine zr_icmp_eq (pc := 86) (tgt := 95) h dX12_newRead_86 rfl (fun b20 => ?_) (fun b20 => ?_)
        · have hf := hf.1 b20
          refine zr_iincx (pc := 95) h dX12_newRead_95 rfl (by decide) rfl (c := (1 : Int32)) (by decide) (fun x17 ex17 => ?_)
          have hf := zLt_s ex17 hf
          refine zr_goto (pc := 98) (tgt := 59) h dX12_newRead_98 rfl ?_
          exact zr_weak h [true, true, true, true, true] (ih _ _ _ _ _ hf)
        · have hf := hf.2 b20
          refine zr_aload_n (pc := 89) h dX12_newRead_89 rfl rfl ?_
          refine zr_iconst (pc := 90) (v := (2 : Int32)) h dX12_newRead_90 (by decide) ?_
          refine zr_iload_n (pc := 91) h dX12_newRead_91 rfl rfl ?_
          obtain ⟨μ18, eμ18, hf⟩ := zBd_s hf
          refine zm_X12_106 (pc := 92) h gkc_267 ⟨by decide, by decide⟩ (cX12_fail_ok eμ18) rfl (Nat.le_of_ble_eq_true rfl) dX12_newRead_92 rfl ?_
          refine zr_iincx (pc := 95) h dX12_newRead_95 rfl (by decide) rfl (c := (1 : Int32)) (by decide) (fun x19 ex19 => ?_)
          have hf := zLt_s ex19 hf
          refine zr_goto (pc := 98) (tgt := 59) h dX12_newRead_98 rfl ?_
          exact zr_weak h [true, true, true, true, true] (ih _ _ _ _ _ hf)

set_option maxRecDepth 100000 in
set_option maxHeartbeats 4000000 in
theorem fX12_newRead_n27_ok {l : Launch} {g : gG} {r : Int32} {ν : gM} {K : gKt} (h : gR l g cX12_newRead RX12 5 (some .int) (gRm 4 87) (some (.int r)) ν K) {y1 : Int32} {y2 : Int32} {μ : gM} (hf : fX12_newRead_n27 y1 y2 μ = some (r, ν)) : K 27 [some (.ref (g.1 + 267)), some (.int y1), some (.int y2), none, none] [] μ := by
  unfold fX12_newRead_n27 at hf
  refine zr_aload_n (pc := 27) h dX12_newRead_27 rfl rfl ?_
  obtain ⟨x4, ex4, hf⟩ := zBd_s hf
  refine zm_X12_110 (pc := 28) h gkc_267 ⟨by decide, by decide⟩ (cX12_isFine_ok ex4) rfl (Nat.le_of_ble_eq_true rfl) dX12_newRead_28 rfl ?_
  have hf := zIf_s hf
  refine zr_if_ne (pc := 31) (tgt := 36) h dX12_newRead_31 rfl (fun b25 => ?_) (fun b25 => ?_)
  · have hf := hf.2 b25
    refine zr_aload_n (pc := 36) h dX12_newRead_36 rfl rfl ?_
    obtain ⟨μ5, eμ5, hf⟩ := zBd_s hf
    refine zm_X12_139 (pc := 37) h gkc_267 ⟨by decide, by decide⟩ (cX12_pass_ok eμ5) rfl (Nat.le_of_ble_eq_true rfl) dX12_newRead_37 rfl ?_
    refine zr_aload_n (pc := 40) h dX12_newRead_40 rfl rfl ?_
    obtain ⟨x6, μ7, ex6, hf⟩ := zBp_s hf
    refine zm_X12_102 (pc := 41) h gkc_267 ⟨by decide, by decide⟩ (cX12_next_ok ex6) rfl (Nat.le_of_ble_eq_true rfl) dX12_newRead_41 rfl ?_
    refine zr_istore_n (pc := 44) h dX12_newRead_44 rfl (by decide) rfl ?_
    refine zr_aload_n (pc := 45) h dX12_newRead_45 rfl rfl ?_
    obtain ⟨x8, μ9, ex8, hf⟩ := zBp_s hf
    refine zm_X12_158 (pc := 46) h gkc_267 ⟨by decide, by decide⟩ (cX12_isName_ok ex8) rfl (Nat.le_of_ble_eq_true rfl) dX12_newRead_46 rfl ?_
    have hf := zIf_s hf
    refine zr_if_ne (pc := 49) (tgt := 56) h dX12_newRead_49 rfl (fun b24 => ?_) (fun b24 => ?_)
    · have hf := hf.2 b24
      refine zr_iconst (pc := 56) (v := (0 : Int32)) h dX12_newRead_56 (by decide) ?_
      refine zr_istore (pc := 57) h dX12_newRead_57 (by decide) rfl ?_
      exact zr_weak h [true, true, true, true, true] (fX12_newRead_l59_ok h 100000 _ _ _ _ _ hf)
    · have hf := hf.1 b24
      refine zr_aload_n (pc := 52) h dX12_newRead_52 rfl rfl ?_
      obtain ⟨μ23, eμ23, hf⟩ := zBd_s hf
      refine zm_X12_121 (pc := 53) h gkc_267 ⟨by decide, by decide⟩ (cX12_unlike_ok eμ23) rfl (Nat.le_of_ble_eq_true rfl) dX12_newRead_53 rfl ?_
      refine zr_iconst (pc := 56) (v := (0 : Int32)) h dX12_newRead_56 (by decide) ?_
      refine zr_istore (pc := 57) h dX12_newRead_57 (by decide) rfl ?_
      exact zr_weak h [true, true, true, true, true] (fX12_newRead_l59_ok h 100000 _ _ _ _ _ hf)
  · have hf := hf.1 b25
    refine zr_iconst (pc := 34) (v := (0 : Int32)) h dX12_newRead_34 (by decide) ?_
    exact zr_iret (pc := 35) h dX12_newRead_35 (zRp hf).1 (zRp hf).2

set_option maxRecDepth 100000 in
set_option maxHeartbeats 4000000 in
theorem cX12_newRead_ok {l : Launch} {g : gG} {a1 : Int32} {μ : gM} {r : Int32} {ν : gM} (hf : fX12_newRead a1 μ = some (r, ν)) : gMet l g yX12_newRead cX12_newRead 5 (some .int) 4 87 [.ref (g.1 + 267), .int a1] μ (some (.int r)) ν := by
  refine gMet_of (gIni [.ref (g.1 + 267), .int a1] ++ List.replicate 3 none) (by decide) (gIni_ok _ _) (Nat.le_of_ble_eq_true rfl) (fun K h => ?_)
  show K 0 [some (.ref (g.1 + 267)), some (.int a1), none, none, none] [] μ
  unfold fX12_newRead at hf
  refine zr_aload_n (pc := 0) h dX12_newRead_0 rfl rfl ?_
  refine zf_X12_21 (pc := 1) h gkc_267 dX12_newRead_1 ?_
  refine zr_iconst (pc := 4) (v := (0 : Int32)) h dX12_newRead_4 (by decide) ?_
  refine zr_iload_n (pc := 5) h dX12_newRead_5 rfl rfl ?_
  refine zr_iadd (pc := 6) h dX12_newRead_6 ?_
  obtain ⟨q1, hf⟩ := zCk_s hf
  refine zr_iald (pc := 7) h gkc_270 q1 rfl dX12_newRead_7 ?_
  refine zr_topi h (fun x2 ex2 => ?_)
  have hf := zLt_s ex2 hf
  refine zr_istore_n (pc := 8) h dX12_newRead_8 rfl (by decide) rfl ?_
  refine zr_iload_n (pc := 9) h dX12_newRead_9 rfl rfl ?_
  refine zr_iload_n (pc := 10) h dX12_newRead_10 rfl rfl ?_
  obtain ⟨x3, ex3, hf⟩ := zBd_s hf
  refine zm_X12_154 (pc := 11) h ⟨by decide, by decide⟩ (cX12_mostOf_ok ex3) rfl (Nat.le_of_ble_eq_true rfl) dX12_newRead_11 rfl ?_
  have hf := zIf_s hf
  refine zr_icmp_ne (pc := 14) (tgt := 27) h dX12_newRead_14 rfl (fun b29 => ?_) (fun b29 => ?_)
  · have hf := hf.2 b29
    exact zr_weak h [true, true, true, false, false] (fX12_newRead_n27_ok h hf)
  · have hf := hf.1 b29
    refine zr_aload_n (pc := 17) h dX12_newRead_17 rfl rfl ?_
    refine zr_bipush (pc := 18) (v := (6 : Int32)) h dX12_newRead_18 (by decide) ?_
    refine zr_aload_n (pc := 20) h dX12_newRead_20 rfl rfl ?_
    obtain ⟨x26, μ27, ex26, hf⟩ := zBp_s hf
    refine zm_X12_102 (pc := 21) h gkc_267 ⟨by decide, by decide⟩ (cX12_next_ok ex26) rfl (Nat.le_of_ble_eq_true rfl) dX12_newRead_21 rfl ?_
    obtain ⟨μ28, eμ28, hf⟩ := zBd_s hf
    refine zm_X12_106 (pc := 24) h gkc_267 ⟨by decide, by decide⟩ (cX12_fail_ok eμ28) rfl (Nat.le_of_ble_eq_true rfl) dX12_newRead_24 rfl ?_
    exact zr_weak h [true, true, true, false, false] (fX12_newRead_n27_ok h hf)

set_option maxRecDepth 100000 in
set_option maxHeartbeats 4000000 in
theorem fX12_oneRead_n26_ok {l : Launch} {g : gG} {p1 : Nat} {r : Int32} {ν : gM} {K : gKt} (h : gR l g cX12_oneRead RX12 4 (some .int) (gRm 4 87) (some (.int r)) ν K) (h1 : gk p1 = (1, 209)) {y2 : Int32} {μ : gM} (hf : fX12_oneRead_n26 p1 y2 μ = some (r, ν)) : K 26 [some (.ref (g.1 + 267)), some (.ref (g.1 + p1)), some (.int y2), none] [] μ := by
  unfold fX12_oneRead_n26 at hf
  refine zr_aload_n (pc := 26) h dX12_oneRead_26 rfl rfl ?_
  obtain ⟨x5, ex5, hf⟩ := zBd_s hf
  refine zm_X12_110 (pc := 27) h gkc_267 ⟨by decide, by decide⟩ (cX12_isFine_ok ex5) rfl (Nat.le_of_ble_eq_true rfl) dX12_oneRead_27 rfl ?_
  have hf := zIf_s hf
  refine zr_if_ne (pc := 30) (tgt := 35) h dX12_oneRead_30 rfl (fun b10 => ?_) (fun b10 => ?_)
  · have hf := hf.2 b10
    refine zr_aload_n (pc := 35) h dX12_oneRead_35 rfl rfl ?_
    refine zr_iload_n (pc := 36) h dX12_oneRead_36 rfl rfl ?_
    refine zr_aload_n (pc := 37) h dX12_oneRead_37 rfl rfl ?_
    refine zf_X12_127 (pc := 38) h gkc_267 dX12_oneRead_38 ?_
    obtain ⟨x6, ex6, hf⟩ := zBd_s hf
    refine zm_X12_161 (pc := 41) h ⟨by decide, by decide⟩ (cX12_nameOf_ok h1 ex6) rfl (Nat.le_of_ble_eq_true rfl) dX12_oneRead_41 rfl ?_
    refine zr_istore_n (pc := 44) h dX12_oneRead_44 rfl (by decide) rfl ?_
    refine zr_iload_n (pc := 45) h dX12_oneRead_45 rfl rfl ?_
    refine zr_iconst (pc := 46) (v := (-1 : Int32)) h dX12_oneRead_46 (by decide) ?_
    have hf := zIf_s hf
    refine zr_icmp_ne (pc := 47) (tgt := 62) h dX12_oneRead_47 rfl (fun b9 => ?_) (fun b9 => ?_)
    · have hf := hf.2 b9
      refine zr_aload_n (pc := 62) h dX12_oneRead_62 rfl rfl ?_
      obtain ⟨μ7, eμ7, hf⟩ := zBd_s hf
      refine zm_X12_139 (pc := 63) h gkc_267 ⟨by decide, by decide⟩ (cX12_pass_ok eμ7) rfl (Nat.le_of_ble_eq_true rfl) dX12_oneRead_63 rfl ?_
      refine zr_iload_n (pc := 66) h dX12_oneRead_66 rfl rfl ?_
      exact zr_iret (pc := 67) h dX12_oneRead_67 (zRp hf).1 (zRp hf).2
    · have hf := hf.1 b9
      refine zr_aload_n (pc := 50) h dX12_oneRead_50 rfl rfl ?_
      refine zr_iconst (pc := 51) (v := (3 : Int32)) h dX12_oneRead_51 (by decide) ?_
      refine zr_aload_n (pc := 52) h dX12_oneRead_52 rfl rfl ?_
      refine zf_X12_165 (pc := 53) h gkc_267 dX12_oneRead_53 ?_
      obtain ⟨μ8, eμ8, hf⟩ := zBd_s hf
      refine zm_X12_106 (pc := 56) h gkc_267 ⟨by decide, by decide⟩ (cX12_fail_ok eμ8) rfl (Nat.le_of_ble_eq_true rfl) dX12_oneRead_56 rfl ?_
      refine zr_goto (pc := 59) (tgt := 66) h dX12_oneRead_59 rfl ?_
      refine zr_iload_n (pc := 66) h dX12_oneRead_66 rfl rfl ?_
      exact zr_iret (pc := 67) h dX12_oneRead_67 (zRp hf).1 (zRp hf).2
  · have hf := hf.1 b10
    refine zr_iconst (pc := 33) (v := (-1 : Int32)) h dX12_oneRead_33 (by decide) ?_
    exact zr_iret (pc := 34) h dX12_oneRead_34 (zRp hf).1 (zRp hf).2

set_option maxRecDepth 100000 in
set_option maxHeartbeats 4000000 in
theorem cX12_oneRead_ok {l : Launch} {g : gG} {p1 : Nat} {a2 : Int32} {μ : gM} {r : Int32} {ν : gM} (h1 : gk p1 = (1, 209)) (hf : fX12_oneRead p1 a2 μ = some (r, ν)) : gMet l g yX12_oneRead cX12_oneRead 4 (some .int) 4 87 [.ref (g.1 + 267), .ref (g.1 + p1), .int a2] μ (some (.int r)) ν := by
  refine gMet_of (gIni [.ref (g.1 + 267), .ref (g.1 + p1), .int a2] ++ List.replicate 1 none) (by decide) (gIni_ok _ _) (Nat.le_of_ble_eq_true rfl) (fun K h => ?_)
  show K 0 [some (.ref (g.1 + 267)), some (.ref (g.1 + p1)), some (.int a2), none] [] μ
  unfold fX12_oneRead at hf
  refine zr_aload_n (pc := 0) h dX12_oneRead_0 rfl rfl ?_
  refine zr_aload_n (pc := 1) h dX12_oneRead_1 rfl rfl ?_
  obtain ⟨x1, μ2, ex1, hf⟩ := zBp_s hf
  refine zm_X12_102 (pc := 2) h gkc_267 ⟨by decide, by decide⟩ (cX12_next_ok ex1) rfl (Nat.le_of_ble_eq_true rfl) dX12_oneRead_2 rfl ?_
  refine zp_X12_165 (pc := 5) h gkc_267 dX12_oneRead_5 ?_
  refine zr_mu h (fun μ3 eμ3 => ?_)
  have hf := zLt_s eμ3 hf
  refine zr_aload_n (pc := 8) h dX12_oneRead_8 rfl rfl ?_
  obtain ⟨x4, ex4, hf⟩ := zBd_s hf
  refine zm_X12_110 (pc := 9) h gkc_267 ⟨by decide, by decide⟩ (cX12_isFine_ok ex4) rfl (Nat.le_of_ble_eq_true rfl) dX12_oneRead_9 rfl ?_
  have hf := zIf_s hf
  refine zr_if_eq (pc := 12) (tgt := 26) h dX12_oneRead_12 rfl (fun b15 => ?_) (fun b15 => ?_)
  · have hf := hf.1 b15
    exact zr_weak h [true, true, true, false] (fX12_oneRead_n26_ok h h1 hf)
  · have hf := hf.2 b15
    refine zr_aload_n (pc := 15) h dX12_oneRead_15 rfl rfl ?_
    obtain ⟨x11, μ12, ex11, hf⟩ := zBp_s hf
    refine zm_X12_158 (pc := 16) h gkc_267 ⟨by decide, by decide⟩ (cX12_isName_ok ex11) rfl (Nat.le_of_ble_eq_true rfl) dX12_oneRead_16 rfl ?_
    have hf := zIf_s hf
    refine zr_if_ne (pc := 19) (tgt := 26) h dX12_oneRead_19 rfl (fun b14 => ?_) (fun b14 => ?_)
    · have hf := hf.2 b14
      exact zr_weak h [true, true, true, false] (fX12_oneRead_n26_ok h h1 hf)
    · have hf := hf.1 b14
      refine zr_aload_n (pc := 22) h dX12_oneRead_22 rfl rfl ?_
      obtain ⟨μ13, eμ13, hf⟩ := zBd_s hf
      refine zm_X12_121 (pc := 23) h gkc_267 ⟨by decide, by decide⟩ (cX12_unlike_ok eμ13) rfl (Nat.le_of_ble_eq_true rfl) dX12_oneRead_23 rfl ?_
      exact zr_weak h [true, true, true, false] (fX12_oneRead_n26_ok h h1 hf)

set_option maxRecDepth 100000 in
set_option maxHeartbeats 4000000 in
theorem cX12_namesRead_ok {l : Launch} {g : gG} {a1 : Int32} {μ : gM} {ν : gM} (hf : fX12_namesRead a1 μ = some ν) : gMet l g yX12_namesRead cX12_namesRead 3 none 5 111 [.ref (g.1 + 267), .int a1] μ none ν := by
  refine gMet_of (gIni [.ref (g.1 + 267), .int a1] ++ List.replicate 1 none) (by decide) (gIni_ok _ _) (Nat.le_of_ble_eq_true rfl) (fun K h => ?_)
  show K 0 [some (.ref (g.1 + 267)), some (.int a1), none] [] μ
  unfold fX12_namesRead at hf
  refine zr_aload_n (pc := 0) h dX12_namesRead_0 rfl rfl ?_
  refine zr_iload_n (pc := 1) h dX12_namesRead_1 rfl rfl ?_
  obtain ⟨x1, μ2, ex1, hf⟩ := zBp_s hf
  refine zm_X12_168 (pc := 2) h gkc_267 ⟨by decide, by decide⟩ (cX12_newRead_ok ex1) rfl (Nat.le_of_ble_eq_true rfl) dX12_namesRead_2 rfl ?_
  refine zr_istore_n (pc := 5) h dX12_namesRead_5 rfl (by decide) rfl ?_
  refine zr_aload_n (pc := 6) h dX12_namesRead_6 rfl rfl ?_
  obtain ⟨x3, ex3, hf⟩ := zBd_s hf
  refine zm_X12_110 (pc := 7) h gkc_267 ⟨by decide, by decide⟩ (cX12_isFine_ok ex3) rfl (Nat.le_of_ble_eq_true rfl) dX12_namesRead_7 rfl ?_
  have hf := zIf_s hf
  refine zr_if_eq (pc := 10) (tgt := 25) h dX12_namesRead_10 rfl (fun b8 => ?_) (fun b8 => ?_)
  · have hf := hf.1 b8
    exact zr_vret (pc := 25) h dX12_namesRead_25 rfl (zRv hf)
  · have hf := hf.2 b8
    refine zr_aload_n (pc := 13) h dX12_namesRead_13 rfl rfl ?_
    refine zf_X12_21 (pc := 14) h gkc_267 dX12_namesRead_14 ?_
    refine zr_iconst (pc := 17) (v := (0 : Int32)) h dX12_namesRead_17 (by decide) ?_
    refine zr_iload_n (pc := 18) h dX12_namesRead_18 rfl rfl ?_
    refine zr_iadd (pc := 19) h dX12_namesRead_19 ?_
    refine zr_topi h (fun x4 ex4 => ?_)
    have hf := zLt_s ex4 hf
    refine zr_dup2 (pc := 20) h dX12_namesRead_20 rfl rfl ?_
    obtain ⟨q5, hf⟩ := zCk_s hf
    refine zr_iald (pc := 21) h gkc_270 q5 rfl dX12_namesRead_21 ?_
    refine zr_iconst (pc := 22) (v := (1 : Int32)) h dX12_namesRead_22 (by decide) ?_
    refine zr_iadd (pc := 23) h dX12_namesRead_23 ?_
    obtain ⟨q6, hf⟩ := zCk_s hf
    refine zr_iast (pc := 24) h gkc_270 q6 rfl dX12_namesRead_24 ?_
    refine zr_mu h (fun μ7 eμ7 => ?_)
    have hf := zLt_s eμ7 hf
    exact zr_vret (pc := 25) h dX12_namesRead_25 rfl (zRv hf)

set_option maxRecDepth 100000 in
set_option maxHeartbeats 4000000 in
theorem fX12_groupRead_n73_ok {l : Launch} {g : gG} {ν : gM} {K : gKt} (h : gR l g cX12_groupRead RX12 6 none (gRm 6 130) none ν K) {y1 : Int32} {y2 : Int32} {y3 : Int32} {y4 : Int32} {z0 : Int32} {μ : gM} (hf : fX12_groupRead_n73 y1 y2 y3 y4 z0 μ = some ν) : K 73 [some (.ref (g.1 + 267)), some (.int y1), some (.int y2), some (.int y3), some (.int y4), none] [.int z0] μ := by
  unfold fX12_groupRead_n73 at hf
  refine zr_istore (pc := 73) h dX12_groupRead_73 (by decide) rfl ?_
  refine zr_aload_n (pc := 75) h dX12_groupRead_75 rfl rfl ?_
  obtain ⟨x12, ex12, hf⟩ := zBd_s hf
  refine zm_X12_110 (pc := 76) h gkc_267 ⟨by decide, by decide⟩ (cX12_isFine_ok ex12) rfl (Nat.le_of_ble_eq_true rfl) dX12_groupRead_76 rfl ?_
  have hf := zIf_s hf
  refine zr_if_ne (pc := 79) (tgt := 83) h dX12_groupRead_79 rfl (fun b23 => ?_) (fun b23 => ?_)
  · have hf := hf.2 b23
    refine zr_aload_n (pc := 83) h dX12_groupRead_83 rfl rfl ?_
    refine zf_X12_21 (pc := 84) h gkc_267 dX12_groupRead_84 ?_
    refine zr_bipush (pc := 87) (v := (28 : Int32)) h dX12_groupRead_87 (by decide) ?_
    refine zr_iload_n (pc := 89) h dX12_groupRead_89 rfl rfl ?_
    refine zr_iadd (pc := 90) h dX12_groupRead_90 ?_
    refine zr_iload_n (pc := 91) h dX12_groupRead_91 rfl rfl ?_
    obtain ⟨q13, hf⟩ := zCk_s hf
    refine zr_iast (pc := 92) h gkc_270 q13 rfl dX12_groupRead_92 ?_
    refine zr_mu h (fun μ14 eμ14 => ?_)
    have hf := zLt_s eμ14 hf
    refine zr_aload_n (pc := 93) h dX12_groupRead_93 rfl rfl ?_
    refine zf_X12_21 (pc := 94) h gkc_267 dX12_groupRead_94 ?_
    refine zr_bipush (pc := 97) (v := (33 : Int32)) h dX12_groupRead_97 (by decide) ?_
    refine zr_iload_n (pc := 99) h dX12_groupRead_99 rfl rfl ?_
    refine zr_iadd (pc := 100) h dX12_groupRead_100 ?_
    refine zr_iload (pc := 101) h dX12_groupRead_101 rfl ?_
    obtain ⟨q15, hf⟩ := zCk_s hf
    refine zr_iast (pc := 103) h gkc_270 q15 rfl dX12_groupRead_103 ?_
    refine zr_mu h (fun μ16 eμ16 => ?_)
    have hf := zLt_s eμ16 hf
    refine zr_aload_n (pc := 104) h dX12_groupRead_104 rfl rfl ?_
    refine zf_X12_21 (pc := 105) h gkc_267 dX12_groupRead_105 ?_
    refine zr_bipush (pc := 108) (v := (38 : Int32)) h dX12_groupRead_108 (by decide) ?_
    refine zr_iload_n (pc := 110) h dX12_groupRead_110 rfl rfl ?_
    refine zr_iadd (pc := 111) h dX12_groupRead_111 ?_
    refine zr_iload_n (pc := 112) h dX12_groupRead_112 rfl rfl ?_
    obtain ⟨x17, ex17, hf⟩ := zBd_s hf
    refine zm_X12_178 (pc := 113) h ⟨by decide, by decide⟩ (cX12_flag_ok ex17) rfl (Nat.le_of_ble_eq_true rfl) dX12_groupRead_113 rfl ?_
    obtain ⟨q18, hf⟩ := zCk_s hf
    refine zr_iast (pc := 116) h gkc_270 q18 rfl dX12_groupRead_116 ?_
    refine zr_mu h (fun μ19 eμ19 => ?_)
    have hf := zLt_s eμ19 hf
    refine zr_aload_n (pc := 117) h dX12_groupRead_117 rfl rfl ?_
    refine zf_X12_21 (pc := 118) h gkc_267 dX12_groupRead_118 ?_
    refine zr_bipush (pc := 121) (v := (43 : Int32)) h dX12_groupRead_121 (by decide) ?_
    refine zr_iload_n (pc := 123) h dX12_groupRead_123 rfl rfl ?_
    refine zr_iadd (pc := 124) h dX12_groupRead_124 ?_
    refine zr_iload (pc := 125) h dX12_groupRead_125 rfl ?_
    obtain ⟨q20, hf⟩ := zCk_s hf
    refine zr_iast (pc := 127) h gkc_270 q20 rfl dX12_groupRead_127 ?_
    refine zr_mu h (fun μ21 eμ21 => ?_)
    have hf := zLt_s eμ21 hf
    refine zr_aload_n (pc := 128) h dX12_groupRead_128 rfl rfl ?_
    refine zf_X12_21 (pc := 129) h gkc_267 dX12_groupRead_129 ?_
    refine zr_iconst (pc := 132) (v := (2 : Int32)) h dX12_groupRead_132 (by decide) ?_
    refine zr_dup2 (pc := 133) h dX12_groupRead_133 rfl rfl ?_
    refine zr_iald (pc := 134) (q := 2) h gkc_270 rfl (by decide) dX12_groupRead_134 ?_
    refine zr_iconst (pc := 135) (v := (1 : Int32)) h dX12_groupRead_135 (by decide) ?_
    refine zr_iadd (pc := 136) h dX12_groupRead_136 ?_
    refine zr_iast (pc := 137) (q := 2) h gkc_270 rfl (by decide) dX12_groupRead_137 ?_
    refine zr_mu h (fun μ22 eμ22 => ?_)
    have hf := zLt_s eμ22 hf
    exact zr_vret (pc := 138) h dX12_groupRead_138 rfl (zRv hf)
  · have hf := hf.1 b23
    exact zr_vret (pc := 82) h dX12_groupRead_82 rfl (zRv hf)

set_option maxRecDepth 100000 in
set_option maxHeartbeats 4000000 in
theorem fX12_groupRead_n53_ok {l : Launch} {g : gG} {ν : gM} {K : gKt} (h : gR l g cX12_groupRead RX12 6 none (gRm 6 130) none ν K) {y1 : Int32} {y2 : Int32} {y3 : Int32} {y4 : Int32} {μ : gM} (hf : fX12_groupRead_n53 y1 y2 y3 y4 μ = some ν) : K 53 [some (.ref (g.1 + 267)), some (.int y1), some (.int y2), some (.int y3), some (.int y4), none] [] μ := by
  unfold fX12_groupRead_n53 at hf
  refine zr_aload_n (pc := 53) h dX12_groupRead_53 rfl rfl ?_
  refine zr_ldc (pc := 54) h zw_1540 dX12_groupRead_54 ?_
  obtain ⟨x10, μ11, ex10, hf⟩ := zBp_s hf
  refine zm_X12_142 (pc := 56) h gkc_267 ⟨by decide, by decide⟩ (cX12_takes_ok ex10) rfl (Nat.le_of_ble_eq_true rfl) dX12_groupRead_56 rfl ?_
  have hf := zIf_s hf
  refine zr_if_eq (pc := 59) (tgt := 72) h dX12_groupRead_59 rfl (fun b26 => ?_) (fun b26 => ?_)
  · have hf := hf.1 b26
    refine zr_iconst (pc := 72) (v := (1 : Int32)) h dX12_groupRead_72 (by decide) ?_
    exact zr_weak h [true, true, true, true, true, false] (fX12_groupRead_n73_ok h hf)
  · have hf := hf.2 b26
    refine zr_aload_n (pc := 62) h dX12_groupRead_62 rfl rfl ?_
    refine zr_iconst (pc := 63) (v := (1 : Int32)) h dX12_groupRead_63 (by decide) ?_
    refine zr_bipush (pc := 64) (v := (8 : Int32)) h dX12_groupRead_64 (by decide) ?_
    obtain ⟨x24, μ25, ex24, hf⟩ := zBp_s hf
    refine zm_X12_174 (pc := 66) h gkc_267 ⟨by decide, by decide⟩ (cX12_number_ok ex24) rfl (Nat.le_of_ble_eq_true rfl) dX12_groupRead_66 rfl ?_
    refine zr_goto (pc := 69) (tgt := 73) h dX12_groupRead_69 rfl ?_
    exact zr_weak h [true, true, true, true, true, false] (fX12_groupRead_n73_ok h hf)

set_option maxRecDepth 100000 in
set_option maxHeartbeats 4000000 in
theorem cX12_groupRead_ok {l : Launch} {g : gG} {μ : gM} {ν : gM} (hf : fX12_groupRead μ = some ν) : gMet l g yX12_groupRead cX12_groupRead 6 none 6 130 [.ref (g.1 + 267)] μ none ν := by
  refine gMet_of (gIni [.ref (g.1 + 267)] ++ List.replicate 5 none) (by decide) (gIni_ok _ _) (Nat.le_of_ble_eq_true rfl) (fun K h => ?_)
  show K 0 [some (.ref (g.1 + 267)), none, none, none, none, none] [] μ
  unfold fX12_groupRead at hf
  refine zr_aload_n (pc := 0) h dX12_groupRead_0 rfl rfl ?_
  refine zr_iconst (pc := 1) (v := (2 : Int32)) h dX12_groupRead_1 (by decide) ?_
  obtain ⟨x1, μ2, ex1, hf⟩ := zBp_s hf
  refine zm_X12_168 (pc := 2) h gkc_267 ⟨by decide, by decide⟩ (cX12_newRead_ok ex1) rfl (Nat.le_of_ble_eq_true rfl) dX12_groupRead_2 rfl ?_
  refine zr_istore_n (pc := 5) h dX12_groupRead_5 rfl (by decide) rfl ?_
  refine zr_aload_n (pc := 6) h dX12_groupRead_6 rfl rfl ?_
  refine zr_ldc (pc := 7) h zw_1537 dX12_groupRead_7 ?_
  obtain ⟨μ3, eμ3, hf⟩ := zBd_s hf
  refine zm_X12_171 (pc := 9) h gkc_267 ⟨by decide, by decide⟩ (cX12_asks_ok eμ3) rfl (Nat.le_of_ble_eq_true rfl) dX12_groupRead_9 rfl ?_
  refine zr_aload_n (pc := 12) h dX12_groupRead_12 rfl rfl ?_
  refine zr_iconst (pc := 13) (v := (1 : Int32)) h dX12_groupRead_13 (by decide) ?_
  refine zr_bipush (pc := 14) (v := (40 : Int32)) h dX12_groupRead_14 (by decide) ?_
  obtain ⟨x4, μ5, ex4, hf⟩ := zBp_s hf
  refine zm_X12_174 (pc := 16) h gkc_267 ⟨by decide, by decide⟩ (cX12_number_ok ex4) rfl (Nat.le_of_ble_eq_true rfl) dX12_groupRead_16 rfl ?_
  refine zr_istore_n (pc := 19) h dX12_groupRead_19 rfl (by decide) rfl ?_
  refine zr_iconst (pc := 20) (v := (0 : Int32)) h dX12_groupRead_20 (by decide) ?_
  refine zr_istore_n (pc := 21) h dX12_groupRead_21 rfl (by decide) rfl ?_
  refine zr_iconst (pc := 22) (v := (0 : Int32)) h dX12_groupRead_22 (by decide) ?_
  refine zr_istore (pc := 23) h dX12_groupRead_23 (by decide) rfl ?_
  refine zr_aload_n (pc := 25) h dX12_groupRead_25 rfl rfl ?_
  refine zr_ldc (pc := 26) h zw_1538 dX12_groupRead_26 ?_
  obtain ⟨x6, μ7, ex6, hf⟩ := zBp_s hf
  refine zm_X12_142 (pc := 28) h gkc_267 ⟨by decide, by decide⟩ (cX12_takes_ok ex6) rfl (Nat.le_of_ble_eq_true rfl) dX12_groupRead_28 rfl ?_
  have hf := zIf_s hf
  refine zr_if_eq (pc := 31) (tgt := 46) h dX12_groupRead_31 rfl (fun b29 => ?_) (fun b29 => ?_)
  · have hf := hf.1 b29
    refine zr_aload_n (pc := 46) h dX12_groupRead_46 rfl rfl ?_
    refine zr_ldc (pc := 47) h zw_1539 dX12_groupRead_47 ?_
    obtain ⟨x8, μ9, ex8, hf⟩ := zBp_s hf
    refine zm_X12_142 (pc := 49) h gkc_267 ⟨by decide, by decide⟩ (cX12_takes_ok ex8) rfl (Nat.le_of_ble_eq_true rfl) dX12_groupRead_49 rfl ?_
    refine zr_istore_n (pc := 52) h dX12_groupRead_52 rfl (by decide) rfl ?_
    exact zr_weak h [true, true, true, true, true, false] (fX12_groupRead_n53_ok h hf)
  · have hf := hf.2 b29
    refine zr_aload_n (pc := 34) h dX12_groupRead_34 rfl rfl ?_
    refine zr_iconst (pc := 35) (v := (0 : Int32)) h dX12_groupRead_35 (by decide) ?_
    refine zr_bipush (pc := 36) (v := (99 : Int32)) h dX12_groupRead_36 (by decide) ?_
    obtain ⟨x27, μ28, ex27, hf⟩ := zBp_s hf
    refine zm_X12_174 (pc := 38) h gkc_267 ⟨by decide, by decide⟩ (cX12_number_ok ex27) rfl (Nat.le_of_ble_eq_true rfl) dX12_groupRead_38 rfl ?_
    refine zr_istore (pc := 41) h dX12_groupRead_41 (by decide) rfl ?_
    refine zr_goto (pc := 43) (tgt := 53) h dX12_groupRead_43 rfl ?_
    exact zr_weak h [true, true, true, true, true, false] (fX12_groupRead_n53_ok h hf)

set_option maxRecDepth 100000 in
set_option maxHeartbeats 4000000 in
theorem fX12_memberRead_n101_ok {l : Launch} {g : gG} {ν : gM} {K : gKt} (h : gR l g cX12_memberRead RX12 6 none (gRm 6 130) none ν K) {y1 : Int32} {y3 : Int32} {y4 : Int32} {z0 : Int32} {μ : gM} (hf : fX12_memberRead_n101 y1 y3 y4 z0 μ = some ν) : K 101 [some (.ref (g.1 + 267)), some (.int y1), none, some (.int y3), some (.int y4), none] [.int z0] μ := by
  unfold fX12_memberRead_n101 at hf
  refine zr_istore (pc := 101) h dX12_memberRead_101 (by decide) rfl ?_
  refine zr_aload_n (pc := 103) h dX12_memberRead_103 rfl rfl ?_
  obtain ⟨x14, ex14, hf⟩ := zBd_s hf
  refine zm_X12_110 (pc := 104) h gkc_267 ⟨by decide, by decide⟩ (cX12_isFine_ok ex14) rfl (Nat.le_of_ble_eq_true rfl) dX12_memberRead_104 rfl ?_
  have hf := zIf_s hf
  refine zr_if_ne (pc := 107) (tgt := 111) h dX12_memberRead_107 rfl (fun b25 => ?_) (fun b25 => ?_)
  · have hf := hf.2 b25
    refine zr_aload_n (pc := 111) h dX12_memberRead_111 rfl rfl ?_
    refine zf_X12_21 (pc := 112) h gkc_267 dX12_memberRead_112 ?_
    refine zr_bipush (pc := 115) (v := (48 : Int32)) h dX12_memberRead_115 (by decide) ?_
    refine zr_iload_n (pc := 117) h dX12_memberRead_117 rfl rfl ?_
    refine zr_iadd (pc := 118) h dX12_memberRead_118 ?_
    refine zr_topi h (fun x15 ex15 => ?_)
    have hf := zLt_s ex15 hf
    refine zr_dup2 (pc := 119) h dX12_memberRead_119 rfl rfl ?_
    obtain ⟨q16, hf⟩ := zCk_s hf
    refine zr_iald (pc := 120) h gkc_270 q16 rfl dX12_memberRead_120 ?_
    refine zr_iconst (pc := 121) (v := (1 : Int32)) h dX12_memberRead_121 (by decide) ?_
    refine zr_iload_n (pc := 122) h dX12_memberRead_122 rfl rfl ?_
    refine zr_ishl (pc := 123) h dX12_memberRead_123 ?_
    refine zr_ior (pc := 124) h dX12_memberRead_124 ?_
    obtain ⟨q17, hf⟩ := zCk_s hf
    refine zr_iast (pc := 125) h gkc_270 q17 rfl dX12_memberRead_125 ?_
    refine zr_mu h (fun μ18 eμ18 => ?_)
    have hf := zLt_s eμ18 hf
    refine zr_aload_n (pc := 126) h dX12_memberRead_126 rfl rfl ?_
    refine zf_X12_21 (pc := 127) h gkc_267 dX12_memberRead_127 ?_
    refine zr_bipush (pc := 130) (v := (53 : Int32)) h dX12_memberRead_130 (by decide) ?_
    refine zr_iload_n (pc := 132) h dX12_memberRead_132 rfl rfl ?_
    refine zr_iload_n (pc := 133) h dX12_memberRead_133 rfl rfl ?_
    obtain ⟨x19, ex19, hf⟩ := zBd_s hf
    refine zm_X12_190 (pc := 134) h ⟨by decide, by decide⟩ (cX12_of_ok ex19) rfl (Nat.le_of_ble_eq_true rfl) dX12_memberRead_134 rfl ?_
    refine zr_iadd (pc := 137) h dX12_memberRead_137 ?_
    refine zr_iload (pc := 138) h dX12_memberRead_138 rfl ?_
    obtain ⟨q20, hf⟩ := zCk_s hf
    refine zr_iast (pc := 140) h gkc_270 q20 rfl dX12_memberRead_140 ?_
    refine zr_mu h (fun μ21 eμ21 => ?_)
    have hf := zLt_s eμ21 hf
    refine zr_aload_n (pc := 141) h dX12_memberRead_141 rfl rfl ?_
    refine zf_X12_21 (pc := 142) h gkc_267 dX12_memberRead_142 ?_
    refine zr_bipush (pc := 145) (v := (83 : Int32)) h dX12_memberRead_145 (by decide) ?_
    refine zr_iload_n (pc := 147) h dX12_memberRead_147 rfl rfl ?_
    refine zr_iload_n (pc := 148) h dX12_memberRead_148 rfl rfl ?_
    obtain ⟨x22, ex22, hf⟩ := zBd_s hf
    refine zm_X12_190 (pc := 149) h ⟨by decide, by decide⟩ (cX12_of_ok ex22) rfl (Nat.le_of_ble_eq_true rfl) dX12_memberRead_149 rfl ?_
    refine zr_iadd (pc := 152) h dX12_memberRead_152 ?_
    refine zr_iload (pc := 153) h dX12_memberRead_153 rfl ?_
    obtain ⟨q23, hf⟩ := zCk_s hf
    refine zr_iast (pc := 155) h gkc_270 q23 rfl dX12_memberRead_155 ?_
    refine zr_mu h (fun μ24 eμ24 => ?_)
    have hf := zLt_s eμ24 hf
    exact zr_vret (pc := 156) h dX12_memberRead_156 rfl (zRv hf)
  · have hf := hf.1 b25
    exact zr_vret (pc := 110) h dX12_memberRead_110 rfl (zRv hf)

set_option maxRecDepth 100000 in
set_option maxHeartbeats 4000000 in
theorem fX12_memberRead_n65_ok {l : Launch} {g : gG} {ν : gM} {K : gKt} (h : gR l g cX12_memberRead RX12 6 none (gRm 6 130) none ν K) {y1 : Int32} {y3 : Int32} {μ : gM} (hf : fX12_memberRead_n65 y1 y3 μ = some ν) : K 65 [some (.ref (g.1 + 267)), some (.int y1), none, some (.int y3), none, none] [] μ := by
  unfold fX12_memberRead_n65 at hf
  refine zr_aload_n (pc := 65) h dX12_memberRead_65 rfl rfl ?_
  refine zr_ldc (pc := 66) h zw_1541 dX12_memberRead_66 ?_
  obtain ⟨μ9, eμ9, hf⟩ := zBd_s hf
  refine zm_X12_171 (pc := 68) h gkc_267 ⟨by decide, by decide⟩ (cX12_asks_ok eμ9) rfl (Nat.le_of_ble_eq_true rfl) dX12_memberRead_68 rfl ?_
  refine zr_aload_n (pc := 71) h dX12_memberRead_71 rfl rfl ?_
  refine zr_iconst (pc := 72) (v := (1 : Int32)) h dX12_memberRead_72 (by decide) ?_
  refine zr_sipush (pc := 73) (v := (255 : Int32)) h dX12_memberRead_73 (by decide) ?_
  obtain ⟨x10, μ11, ex10, hf⟩ := zBp_s hf
  refine zm_X12_174 (pc := 76) h gkc_267 ⟨by decide, by decide⟩ (cX12_number_ok ex10) rfl (Nat.le_of_ble_eq_true rfl) dX12_memberRead_76 rfl ?_
  refine zr_istore (pc := 79) h dX12_memberRead_79 (by decide) rfl ?_
  refine zr_aload_n (pc := 81) h dX12_memberRead_81 rfl rfl ?_
  refine zr_ldc (pc := 82) h zw_1542 dX12_memberRead_82 ?_
  obtain ⟨x12, μ13, ex12, hf⟩ := zBp_s hf
  refine zm_X12_142 (pc := 84) h gkc_267 ⟨by decide, by decide⟩ (cX12_takes_ok ex12) rfl (Nat.le_of_ble_eq_true rfl) dX12_memberRead_84 rfl ?_
  have hf := zIf_s hf
  refine zr_if_eq (pc := 87) (tgt := 100) h dX12_memberRead_87 rfl (fun b28 => ?_) (fun b28 => ?_)
  · have hf := hf.1 b28
    refine zr_iconst (pc := 100) (v := (1 : Int32)) h dX12_memberRead_100 (by decide) ?_
    exact zr_weak h [true, true, false, true, true, false] (fX12_memberRead_n101_ok h hf)
  · have hf := hf.2 b28
    refine zr_aload_n (pc := 90) h dX12_memberRead_90 rfl rfl ?_
    refine zr_iconst (pc := 91) (v := (0 : Int32)) h dX12_memberRead_91 (by decide) ?_
    refine zr_bipush (pc := 92) (v := (99 : Int32)) h dX12_memberRead_92 (by decide) ?_
    obtain ⟨x26, μ27, ex26, hf⟩ := zBp_s hf
    refine zm_X12_174 (pc := 94) h gkc_267 ⟨by decide, by decide⟩ (cX12_number_ok ex26) rfl (Nat.le_of_ble_eq_true rfl) dX12_memberRead_94 rfl ?_
    refine zr_goto (pc := 97) (tgt := 101) h dX12_memberRead_97 rfl ?_
    exact zr_weak h [true, true, false, true, true, false] (fX12_memberRead_n101_ok h hf)

set_option maxRecDepth 100000 in
set_option maxHeartbeats 4000000 in
theorem cX12_memberRead_ok {l : Launch} {g : gG} {μ : gM} {ν : gM} (hf : fX12_memberRead μ = some ν) : gMet l g yX12_memberRead cX12_memberRead 6 none 6 130 [.ref (g.1 + 267)] μ none ν := by
  refine gMet_of (gIni [.ref (g.1 + 267)] ++ List.replicate 5 none) (by decide) (gIni_ok _ _) (Nat.le_of_ble_eq_true rfl) (fun K h => ?_)
  show K 0 [some (.ref (g.1 + 267)), none, none, none, none, none] [] μ
  unfold fX12_memberRead at hf
  refine zr_aload_n (pc := 0) h dX12_memberRead_0 rfl rfl ?_
  obtain ⟨μ1, eμ1, hf⟩ := zBd_s hf
  refine zm_X12_139 (pc := 1) h gkc_267 ⟨by decide, by decide⟩ (cX12_pass_ok eμ1) rfl (Nat.le_of_ble_eq_true rfl) dX12_memberRead_1 rfl ?_
  refine zr_aload_n (pc := 4) h dX12_memberRead_4 rfl rfl ?_
  refine zr_aload_n (pc := 5) h dX12_memberRead_5 rfl rfl ?_
  refine zf_X12_21 (pc := 6) h gkc_267 dX12_memberRead_6 ?_
  refine zr_iconst (pc := 9) (v := (0 : Int32)) h dX12_memberRead_9 (by decide) ?_
  obtain ⟨x2, μ3, ex2, hf⟩ := zBp_s hf
  refine zm_X12_182 (pc := 10) h gkc_267 ⟨by decide, by decide⟩ (cX12_oneRead_ok gkc_270 ex2) rfl (Nat.le_of_ble_eq_true rfl) dX12_memberRead_10 rfl ?_
  refine zr_istore_n (pc := 13) h dX12_memberRead_13 rfl (by decide) rfl ?_
  refine zr_aload_n (pc := 14) h dX12_memberRead_14 rfl rfl ?_
  refine zf_X12_165 (pc := 15) h gkc_267 dX12_memberRead_15 ?_
  refine zr_topi h (fun x4 ex4 => ?_)
  have hf := zLt_s ex4 hf
  refine zr_istore_n (pc := 18) h dX12_memberRead_18 rfl (by decide) rfl ?_
  refine zr_aload_n (pc := 19) h dX12_memberRead_19 rfl rfl ?_
  refine zr_sipush (pc := 20) (v := (486 : Int32)) h dX12_memberRead_20 (by decide) ?_
  obtain ⟨μ5, eμ5, hf⟩ := zBd_s hf
  refine zm_X12_171 (pc := 23) h gkc_267 ⟨by decide, by decide⟩ (cX12_asks_ok eμ5) rfl (Nat.le_of_ble_eq_true rfl) dX12_memberRead_23 rfl ?_
  refine zr_aload_n (pc := 26) h dX12_memberRead_26 rfl rfl ?_
  refine zr_aload_n (pc := 27) h dX12_memberRead_27 rfl rfl ?_
  refine zf_X12_21 (pc := 28) h gkc_267 dX12_memberRead_28 ?_
  refine zr_iconst (pc := 31) (v := (2 : Int32)) h dX12_memberRead_31 (by decide) ?_
  obtain ⟨x6, μ7, ex6, hf⟩ := zBp_s hf
  refine zm_X12_182 (pc := 32) h gkc_267 ⟨by decide, by decide⟩ (cX12_oneRead_ok gkc_270 ex6) rfl (Nat.le_of_ble_eq_true rfl) dX12_memberRead_32 rfl ?_
  refine zr_istore_n (pc := 35) h dX12_memberRead_35 rfl (by decide) rfl ?_
  refine zr_aload_n (pc := 36) h dX12_memberRead_36 rfl rfl ?_
  obtain ⟨x8, ex8, hf⟩ := zBd_s hf
  refine zm_X12_110 (pc := 37) h gkc_267 ⟨by decide, by decide⟩ (cX12_isFine_ok ex8) rfl (Nat.le_of_ble_eq_true rfl) dX12_memberRead_37 rfl ?_
  have hf := zIf_s hf
  refine zr_if_eq (pc := 40) (tgt := 65) h dX12_memberRead_40 rfl (fun b33 => ?_) (fun b33 => ?_)
  · have hf := hf.1 b33
    exact zr_weak h [true, true, false, true, false, false] (fX12_memberRead_n65_ok h hf)
  · have hf := hf.2 b33
    refine zr_aload_n (pc := 43) h dX12_memberRead_43 rfl rfl ?_
    refine zf_X12_21 (pc := 44) h gkc_267 dX12_memberRead_44 ?_
    refine zr_bipush (pc := 47) (v := (48 : Int32)) h dX12_memberRead_47 (by decide) ?_
    refine zr_iload_n (pc := 49) h dX12_memberRead_49 rfl rfl ?_
    refine zr_iadd (pc := 50) h dX12_memberRead_50 ?_
    obtain ⟨q29, hf⟩ := zCk_s hf
    refine zr_iald (pc := 51) h gkc_270 q29 rfl dX12_memberRead_51 ?_
    refine zr_iload_n (pc := 52) h dX12_memberRead_52 rfl rfl ?_
    obtain ⟨x30, ex30, hf⟩ := zBd_s hf
    refine zm_X12_186 (pc := 53) h ⟨by decide, by decide⟩ (cX12_isOf_ok ex30) rfl (Nat.le_of_ble_eq_true rfl) dX12_memberRead_53 rfl ?_
    have hf := zIf_s hf
    refine zr_if_eq (pc := 56) (tgt := 65) h dX12_memberRead_56 rfl (fun b32 => ?_) (fun b32 => ?_)
    · have hf := hf.1 b32
      exact zr_weak h [true, true, false, true, false, false] (fX12_memberRead_n65_ok h hf)
    · have hf := hf.2 b32
      refine zr_aload_n (pc := 59) h dX12_memberRead_59 rfl rfl ?_
      refine zr_iconst (pc := 60) (v := (5 : Int32)) h dX12_memberRead_60 (by decide) ?_
      refine zr_iload_n (pc := 61) h dX12_memberRead_61 rfl rfl ?_
      obtain ⟨μ31, eμ31, hf⟩ := zBd_s hf
      refine zm_X12_106 (pc := 62) h gkc_267 ⟨by decide, by decide⟩ (cX12_fail_ok eμ31) rfl (Nat.le_of_ble_eq_true rfl) dX12_memberRead_62 rfl ?_
      exact zr_weak h [true, true, false, true, false, false] (fX12_memberRead_n65_ok h hf)

set_option maxRecDepth 100000 in
set_option maxHeartbeats 4000000 in
theorem fX12_isTrack_l3_ok {l : Launch} {g : gG} {r : Int32} {μe : gM} {K : gKt} (h : gR l g cX12_isTrack RX12 5 (some .boolean) (gRm 0 0) (some (.int r)) μe K) : ∀ (n : Nat) (y1 : Int32) (y2 : Int32) (y3 : Int32) (y4 : Int32), fX12_isTrack_l3 n y1 y2 y3 y4 μe = some r → K 3 [some (.ref (g.1 + 267)), some (.int y1), some (.int y2), some (.int y3), some (.int y4)] [] μe := by
  intro n
  induction n with
  | zero =>
    intro y1 y2 y3 y4 hf
    cases (show (none : Option Int32) = some _ from hf)
  | succ n ih =>
    intro y1 y2 y3 y4 hf
    unfold fX12_isTrack_l3 at hf
    refine zr_iload (pc := 3) h dX12_isTrack_3 rfl ?_
    refine zr_aload_n (pc := 5) h dX12_isTrack_5 rfl rfl ?_
    refine zf_X12_21 (pc := 6) h gkc_267 dX12_isTrack_6 ?_
    refine zr_iconst (pc := 9) (v := (3 : Int32)) h dX12_isTrack_9 (by decide) ?_
    refine zr_iald (pc := 10) (q := 3) h gkc_270 rfl (by decide) dX12_isTrack_10 ?_
    have hf := zIf_s hf
    refine zr_icmp_ge (pc := 11) (tgt := 74) h dX12_isTrack_11 rfl (fun b10 => ?_) (fun b10 => ?_)
    · have hf := hf.1 b10
      refine zr_iconst (pc := 74) (v := (0 : Int32)) h dX12_isTrack_74 (by decide) ?_
      exact zr_zret (pc := 75) h rfl dX12_isTrack_75 (zRi hf) rfl
    · have hf := hf.2 b10
      refine zr_aload_n (pc := 14) h dX12_isTrack_14 rfl rfl ?_
      refine zf_X12_21 (pc := 15) h gkc_267 dX12_isTrack_15 ?_
      refine zr_bipush (pc := 18) (v := (113 : Int32)) h dX12_isTrack_18 (by decide) ?_
      refine zr_iconst (pc := 20) (v := (4 : Int32)) h dX12_isTrack_20 (by decide) ?_
      refine zr_iload (pc := 21) h dX12_isTrack_21 rfl ?_
      refine zr_imul (pc := 23) h dX12_isTrack_23 ?_
      refine zr_iadd (pc := 24) h dX12_isTrack_24 ?_
      obtain ⟨q1, hf⟩ := zCk_s hf
      refine zr_iald (pc := 25) h gkc_270 q1 rfl dX12_isTrack_25 ?_
      refine zr_iload_n (pc := 26) h dX12_isTrack_26 rfl rfl ?_
      have hf := zIf_s hf
      refine zr_icmp_ne (pc := 27) (tgt := 68) h dX12_isTrack_27 rfl (fun b9 => ?_) (fun b9 => ?_)
      · have hf := hf.2 b9
        refine zr_iincx (pc := 68) h dX12_isTrack_68 rfl (by decide) rfl (c := (1 : Int32)) (by decide) (fun x2 ex2 => ?_)
        have hf := zLt_s ex2 hf
        refine zr_goto (pc := 71) (tgt := 3) h dX12_isTrack_71 rfl ?_
        exact zr_weak h [true, true, true, true, true] (ih _ _ _ _ hf)
      · have hf := hf.1 b9
        refine zr_aload_n (pc := 30) h dX12_isTrack_30 rfl rfl ?_
        refine zf_X12_21 (pc := 31) h gkc_267 dX12_isTrack_31 ?_
        refine zr_bipush (pc := 34) (v := (113 : Int32)) h dX12_isTrack_34 (by decide) ?_
        refine zr_iconst (pc := 36) (v := (4 : Int32)) h dX12_isTrack_36 (by decide) ?_
        refine zr_iload (pc := 37) h dX12_isTrack_37 rfl ?_
        refine zr_imul (pc := 39) h dX12_isTrack_39 ?_
        refine zr_iadd (pc := 40) h dX12_isTrack_40 ?_
        refine zr_iconst (pc := 41) (v := (1 : Int32)) h dX12_isTrack_41 (by decide) ?_
        refine zr_iadd (pc := 42) h dX12_isTrack_42 ?_
        obtain ⟨q3, hf⟩ := zCk_s hf
        refine zr_iald (pc := 43) h gkc_270 q3 rfl dX12_isTrack_43 ?_
        refine zr_iload_n (pc := 44) h dX12_isTrack_44 rfl rfl ?_
        have hf := zIf_s hf
        refine zr_icmp_ne (pc := 45) (tgt := 68) h dX12_isTrack_45 rfl (fun b8 => ?_) (fun b8 => ?_)
        · have hf := hf.2 b8
          refine zr_iincx (pc := 68) h dX12_isTrack_68 rfl (by decide) rfl (c := (1 : Int32)) (by decide) (fun x4 ex4 => ?_)
          have hf := zLt_s ex4 hf
          refine zr_goto (pc := 71) (tgt := 3) h dX12_isTrack_71 rfl ?_
          exact zr_weak h [true, true, true, true, true] (ih _ _ _ _ hf)
        · have hf := hf.1 b8
          refine zr_aload_n (pc := 48) h dX12_isTrack_48 rfl rfl ?_
          refine zf_X12_21 (pc := 49) h gkc_267 dX12_isTrack_49 ?_
          refine zr_bipush (pc := 52) (v := (113 : Int32)) h dX12_isTrack_52 (by decide) ?_
          refine zr_iconst (pc := 54) (v := (4 : Int32)) h dX12_isTrack_54 (by decide) ?_
          refine zr_iload (pc := 55) h dX12_isTrack_55 rfl ?_
          refine zr_imul (pc := 57) h dX12_isTrack_57 ?_
          refine zr_iadd (pc := 58) h dX12_isTrack_58 ?_
          refine zr_iconst (pc := 59) (v := (2 : Int32)) h dX12_isTrack_59 (by decide) ?_
          refine zr_iadd (pc := 60) h dX12_isTrack_60 ?_
          obtain ⟨q5, hf⟩ := zCk_s hf
          refine zr_iald (pc := 61) h gkc_270 q5 rfl dX12_isTrack_61 ?_
          refine zr_iload_n (pc := 62) h dX12_isTrack_62 rfl rfl ?_
          have hf := zIf_s hf
          refine zr_icmp_ne (pc := 63) (tgt := 68) h dX12_isTrack_63 rfl (fun b7 => ?_) (fun b7 => ?_)
          · have hf := hf.2 b7
            refine zr_iincx (pc := 68) h dX12_isTrack_68 rfl (by decide) rfl (c := (1 : Int32)) (by decide) (fun x6 ex6 => ?_)
            have hf := zLt_s ex6 hf
            refine zr_goto (pc := 71) (tgt := 3) h dX12_isTrack_71 rfl ?_
            exact zr_weak h [true, true, true, true, true] (ih _ _ _ _ hf)
          · have hf := hf.1 b7
            refine zr_iconst (pc := 66) (v := (1 : Int32)) h dX12_isTrack_66 (by decide) ?_
            exact zr_zret (pc := 67) h rfl dX12_isTrack_67 (zRi hf) rfl

set_option maxRecDepth 100000 in
set_option maxHeartbeats 4000000 in
theorem cX12_isTrack_ok {l : Launch} {g : gG} {a1 : Int32} {a2 : Int32} {a3 : Int32} {μ : gM} {r : Int32} (hf : fX12_isTrack a1 a2 a3 μ = some r) : gMet l g yX12_isTrack cX12_isTrack 5 (some .boolean) 0 0 [.ref (g.1 + 267), .int a1, .int a2, .int a3] μ (some (.int r)) μ := by
  refine gMet_of (gIni [.ref (g.1 + 267), .int a1, .int a2, .int a3] ++ List.replicate 1 none) (by decide) (gIni_ok _ _) (Nat.le_of_ble_eq_true rfl) (fun K h => ?_)
  show K 0 [some (.ref (g.1 + 267)), some (.int a1), some (.int a2), some (.int a3), none] [] μ
  unfold fX12_isTrack at hf
  refine zr_iconst (pc := 0) (v := (0 : Int32)) h dX12_isTrack_0 (by decide) ?_
  refine zr_istore (pc := 1) h dX12_isTrack_1 (by decide) rfl ?_
  exact zr_weak h [true, true, true, true, true] (fX12_isTrack_l3_ok h 100000 _ _ _ _ hf)

set_option maxRecDepth 100000 in
set_option maxHeartbeats 4000000 in
theorem fX12_trackRead_n138_ok {l : Launch} {g : gG} {ν : gM} {K : gKt} (h : gR l g cX12_trackRead RX12 6 none (gRm 6 130) none ν K) {y1 : Int32} {y2 : Int32} {y3 : Int32} {y4 : Int32} {μ : gM} (hf : fX12_trackRead_n138 y1 y2 y3 y4 μ = some ν) : K 138 [some (.ref (g.1 + 267)), some (.int y1), some (.int y2), some (.int y3), some (.int y4), none] [] μ := by
  unfold fX12_trackRead_n138 at hf
  refine zr_aload_n (pc := 138) h dX12_trackRead_138 rfl rfl ?_
  refine zr_ldc (pc := 139) h zw_1543 dX12_trackRead_139 ?_
  obtain ⟨μ14, eμ14, hf⟩ := zBd_s hf
  refine zm_X12_171 (pc := 141) h gkc_267 ⟨by decide, by decide⟩ (cX12_asks_ok eμ14) rfl (Nat.le_of_ble_eq_true rfl) dX12_trackRead_141 rfl ?_
  refine zr_aload_n (pc := 144) h dX12_trackRead_144 rfl rfl ?_
  refine zr_iconst (pc := 145) (v := (1 : Int32)) h dX12_trackRead_145 (by decide) ?_
  refine zr_sipush (pc := 146) (v := (254 : Int32)) h dX12_trackRead_146 (by decide) ?_
  obtain ⟨x15, μ16, ex15, hf⟩ := zBp_s hf
  refine zm_X12_174 (pc := 149) h gkc_267 ⟨by decide, by decide⟩ (cX12_number_ok ex15) rfl (Nat.le_of_ble_eq_true rfl) dX12_trackRead_149 rfl ?_
  refine zr_istore (pc := 152) h dX12_trackRead_152 (by decide) rfl ?_
  refine zr_aload_n (pc := 154) h dX12_trackRead_154 rfl rfl ?_
  obtain ⟨x17, ex17, hf⟩ := zBd_s hf
  refine zm_X12_110 (pc := 155) h gkc_267 ⟨by decide, by decide⟩ (cX12_isFine_ok ex17) rfl (Nat.le_of_ble_eq_true rfl) dX12_trackRead_155 rfl ?_
  have hf := zIf_s hf
  refine zr_if_ne (pc := 158) (tgt := 162) h dX12_trackRead_158 rfl (fun b27 => ?_) (fun b27 => ?_)
  · have hf := hf.2 b27
    refine zr_aload_n (pc := 162) h dX12_trackRead_162 rfl rfl ?_
    refine zf_X12_21 (pc := 163) h gkc_267 dX12_trackRead_163 ?_
    refine zr_bipush (pc := 166) (v := (113 : Int32)) h dX12_trackRead_166 (by decide) ?_
    refine zr_iconst (pc := 168) (v := (4 : Int32)) h dX12_trackRead_168 (by decide) ?_
    refine zr_iload_n (pc := 169) h dX12_trackRead_169 rfl rfl ?_
    refine zr_imul (pc := 170) h dX12_trackRead_170 ?_
    refine zr_iadd (pc := 171) h dX12_trackRead_171 ?_
    refine zr_iload_n (pc := 172) h dX12_trackRead_172 rfl rfl ?_
    obtain ⟨q18, hf⟩ := zCk_s hf
    refine zr_iast (pc := 173) h gkc_270 q18 rfl dX12_trackRead_173 ?_
    refine zr_mu h (fun μ19 eμ19 => ?_)
    have hf := zLt_s eμ19 hf
    refine zr_aload_n (pc := 174) h dX12_trackRead_174 rfl rfl ?_
    refine zf_X12_21 (pc := 175) h gkc_267 dX12_trackRead_175 ?_
    refine zr_bipush (pc := 178) (v := (113 : Int32)) h dX12_trackRead_178 (by decide) ?_
    refine zr_iconst (pc := 180) (v := (4 : Int32)) h dX12_trackRead_180 (by decide) ?_
    refine zr_iload_n (pc := 181) h dX12_trackRead_181 rfl rfl ?_
    refine zr_imul (pc := 182) h dX12_trackRead_182 ?_
    refine zr_iadd (pc := 183) h dX12_trackRead_183 ?_
    refine zr_iconst (pc := 184) (v := (1 : Int32)) h dX12_trackRead_184 (by decide) ?_
    refine zr_iadd (pc := 185) h dX12_trackRead_185 ?_
    refine zr_iload_n (pc := 186) h dX12_trackRead_186 rfl rfl ?_
    obtain ⟨q20, hf⟩ := zCk_s hf
    refine zr_iast (pc := 187) h gkc_270 q20 rfl dX12_trackRead_187 ?_
    refine zr_mu h (fun μ21 eμ21 => ?_)
    have hf := zLt_s eμ21 hf
    refine zr_aload_n (pc := 188) h dX12_trackRead_188 rfl rfl ?_
    refine zf_X12_21 (pc := 189) h gkc_267 dX12_trackRead_189 ?_
    refine zr_bipush (pc := 192) (v := (113 : Int32)) h dX12_trackRead_192 (by decide) ?_
    refine zr_iconst (pc := 194) (v := (4 : Int32)) h dX12_trackRead_194 (by decide) ?_
    refine zr_iload_n (pc := 195) h dX12_trackRead_195 rfl rfl ?_
    refine zr_imul (pc := 196) h dX12_trackRead_196 ?_
    refine zr_iadd (pc := 197) h dX12_trackRead_197 ?_
    refine zr_iconst (pc := 198) (v := (2 : Int32)) h dX12_trackRead_198 (by decide) ?_
    refine zr_iadd (pc := 199) h dX12_trackRead_199 ?_
    refine zr_iload (pc := 200) h dX12_trackRead_200 rfl ?_
    obtain ⟨q22, hf⟩ := zCk_s hf
    refine zr_iast (pc := 202) h gkc_270 q22 rfl dX12_trackRead_202 ?_
    refine zr_mu h (fun μ23 eμ23 => ?_)
    have hf := zLt_s eμ23 hf
    refine zr_aload_n (pc := 203) h dX12_trackRead_203 rfl rfl ?_
    refine zf_X12_21 (pc := 204) h gkc_267 dX12_trackRead_204 ?_
    refine zr_bipush (pc := 207) (v := (113 : Int32)) h dX12_trackRead_207 (by decide) ?_
    refine zr_iconst (pc := 209) (v := (4 : Int32)) h dX12_trackRead_209 (by decide) ?_
    refine zr_iload_n (pc := 210) h dX12_trackRead_210 rfl rfl ?_
    refine zr_imul (pc := 211) h dX12_trackRead_211 ?_
    refine zr_iadd (pc := 212) h dX12_trackRead_212 ?_
    refine zr_iconst (pc := 213) (v := (3 : Int32)) h dX12_trackRead_213 (by decide) ?_
    refine zr_iadd (pc := 214) h dX12_trackRead_214 ?_
    refine zr_iload (pc := 215) h dX12_trackRead_215 rfl ?_
    obtain ⟨q24, hf⟩ := zCk_s hf
    refine zr_iast (pc := 217) h gkc_270 q24 rfl dX12_trackRead_217 ?_
    refine zr_mu h (fun μ25 eμ25 => ?_)
    have hf := zLt_s eμ25 hf
    refine zr_aload_n (pc := 218) h dX12_trackRead_218 rfl rfl ?_
    refine zf_X12_21 (pc := 219) h gkc_267 dX12_trackRead_219 ?_
    refine zr_iconst (pc := 222) (v := (3 : Int32)) h dX12_trackRead_222 (by decide) ?_
    refine zr_dup2 (pc := 223) h dX12_trackRead_223 rfl rfl ?_
    refine zr_iald (pc := 224) (q := 3) h gkc_270 rfl (by decide) dX12_trackRead_224 ?_
    refine zr_iconst (pc := 225) (v := (1 : Int32)) h dX12_trackRead_225 (by decide) ?_
    refine zr_iadd (pc := 226) h dX12_trackRead_226 ?_
    refine zr_iast (pc := 227) (q := 3) h gkc_270 rfl (by decide) dX12_trackRead_227 ?_
    refine zr_mu h (fun μ26 eμ26 => ?_)
    have hf := zLt_s eμ26 hf
    exact zr_vret (pc := 228) h dX12_trackRead_228 rfl (zRv hf)
  · have hf := hf.1 b27
    exact zr_vret (pc := 161) h dX12_trackRead_161 rfl (zRv hf)

set_option maxRecDepth 100000 in
set_option maxHeartbeats 4000000 in
theorem fX12_trackRead_n94_ok {l : Launch} {g : gG} {ν : gM} {K : gKt} (h : gR l g cX12_trackRead RX12 6 none (gRm 6 130) none ν K) {y1 : Int32} {y2 : Int32} {y3 : Int32} {μ : gM} (hf : fX12_trackRead_n94 y1 y2 y3 μ = some ν) : K 94 [some (.ref (g.1 + 267)), some (.int y1), some (.int y2), some (.int y3), none, none] [] μ := by
  unfold fX12_trackRead_n94 at hf
  refine zr_aload_n (pc := 94) h dX12_trackRead_94 rfl rfl ?_
  refine zr_bipush (pc := 95) (v := (89 : Int32)) h dX12_trackRead_95 (by decide) ?_
  obtain ⟨μ10, eμ10, hf⟩ := zBd_s hf
  refine zm_X12_171 (pc := 97) h gkc_267 ⟨by decide, by decide⟩ (cX12_asks_ok eμ10) rfl (Nat.le_of_ble_eq_true rfl) dX12_trackRead_97 rfl ?_
  refine zr_aload_n (pc := 100) h dX12_trackRead_100 rfl rfl ?_
  refine zr_aload_n (pc := 101) h dX12_trackRead_101 rfl rfl ?_
  refine zf_X12_21 (pc := 102) h gkc_267 dX12_trackRead_102 ?_
  refine zr_iconst (pc := 105) (v := (1 : Int32)) h dX12_trackRead_105 (by decide) ?_
  obtain ⟨x11, μ12, ex11, hf⟩ := zBp_s hf
  refine zm_X12_182 (pc := 106) h gkc_267 ⟨by decide, by decide⟩ (cX12_oneRead_ok gkc_270 ex11) rfl (Nat.le_of_ble_eq_true rfl) dX12_trackRead_106 rfl ?_
  refine zr_istore (pc := 109) h dX12_trackRead_109 (by decide) rfl ?_
  refine zr_aload_n (pc := 111) h dX12_trackRead_111 rfl rfl ?_
  obtain ⟨x13, ex13, hf⟩ := zBd_s hf
  refine zm_X12_110 (pc := 112) h gkc_267 ⟨by decide, by decide⟩ (cX12_isFine_ok ex13) rfl (Nat.le_of_ble_eq_true rfl) dX12_trackRead_112 rfl ?_
  have hf := zIf_s hf
  refine zr_if_eq (pc := 115) (tgt := 138) h dX12_trackRead_115 rfl (fun b31 => ?_) (fun b31 => ?_)
  · have hf := hf.1 b31
    exact zr_weak h [true, true, true, true, true, false] (fX12_trackRead_n138_ok h hf)
  · have hf := hf.2 b31
    refine zr_aload_n (pc := 118) h dX12_trackRead_118 rfl rfl ?_
    refine zr_iload_n (pc := 119) h dX12_trackRead_119 rfl rfl ?_
    refine zr_iload_n (pc := 120) h dX12_trackRead_120 rfl rfl ?_
    refine zr_iload (pc := 121) h dX12_trackRead_121 rfl ?_
    obtain ⟨x28, ex28, hf⟩ := zBd_s hf
    refine zm_X12_193 (pc := 123) h gkc_267 ⟨by decide, by decide⟩ (cX12_isTrack_ok ex28) rfl (Nat.le_of_ble_eq_true rfl) dX12_trackRead_123 rfl ?_
    have hf := zIf_s hf
    refine zr_if_eq (pc := 126) (tgt := 138) h dX12_trackRead_126 rfl (fun b30 => ?_) (fun b30 => ?_)
    · have hf := hf.1 b30
      exact zr_weak h [true, true, true, true, true, false] (fX12_trackRead_n138_ok h hf)
    · have hf := hf.2 b30
      refine zr_aload_n (pc := 129) h dX12_trackRead_129 rfl rfl ?_
      refine zr_iconst (pc := 130) (v := (5 : Int32)) h dX12_trackRead_130 (by decide) ?_
      refine zr_aload_n (pc := 131) h dX12_trackRead_131 rfl rfl ?_
      refine zf_X12_165 (pc := 132) h gkc_267 dX12_trackRead_132 ?_
      obtain ⟨μ29, eμ29, hf⟩ := zBd_s hf
      refine zm_X12_106 (pc := 135) h gkc_267 ⟨by decide, by decide⟩ (cX12_fail_ok eμ29) rfl (Nat.le_of_ble_eq_true rfl) dX12_trackRead_135 rfl ?_
      exact zr_weak h [true, true, true, true, true, false] (fX12_trackRead_n138_ok h hf)

set_option maxRecDepth 100000 in
set_option maxHeartbeats 4000000 in
theorem fX12_trackRead_n23_ok {l : Launch} {g : gG} {ν : gM} {K : gKt} (h : gR l g cX12_trackRead RX12 6 none (gRm 6 130) none ν K) {y1 : Int32} {μ : gM} (hf : fX12_trackRead_n23 y1 μ = some ν) : K 23 [some (.ref (g.1 + 267)), some (.int y1), none, none, none, none] [] μ := by
  unfold fX12_trackRead_n23 at hf
  refine zr_aload_n (pc := 23) h dX12_trackRead_23 rfl rfl ?_
  obtain ⟨x2, ex2, hf⟩ := zBd_s hf
  refine zm_X12_110 (pc := 24) h gkc_267 ⟨by decide, by decide⟩ (cX12_isFine_ok ex2) rfl (Nat.le_of_ble_eq_true rfl) dX12_trackRead_24 rfl ?_
  have hf := zIf_s hf
  refine zr_if_ne (pc := 27) (tgt := 31) h dX12_trackRead_27 rfl (fun b37 => ?_) (fun b37 => ?_)
  · have hf := hf.2 b37
    refine zr_aload_n (pc := 31) h dX12_trackRead_31 rfl rfl ?_
    obtain ⟨μ3, eμ3, hf⟩ := zBd_s hf
    refine zm_X12_139 (pc := 32) h gkc_267 ⟨by decide, by decide⟩ (cX12_pass_ok eμ3) rfl (Nat.le_of_ble_eq_true rfl) dX12_trackRead_32 rfl ?_
    refine zr_aload_n (pc := 35) h dX12_trackRead_35 rfl rfl ?_
    refine zr_aload_n (pc := 36) h dX12_trackRead_36 rfl rfl ?_
    refine zf_X12_21 (pc := 37) h gkc_267 dX12_trackRead_37 ?_
    refine zr_iconst (pc := 40) (v := (0 : Int32)) h dX12_trackRead_40 (by decide) ?_
    obtain ⟨x4, μ5, ex4, hf⟩ := zBp_s hf
    refine zm_X12_182 (pc := 41) h gkc_267 ⟨by decide, by decide⟩ (cX12_oneRead_ok gkc_270 ex4) rfl (Nat.le_of_ble_eq_true rfl) dX12_trackRead_41 rfl ?_
    refine zr_istore_n (pc := 44) h dX12_trackRead_44 rfl (by decide) rfl ?_
    refine zr_aload_n (pc := 45) h dX12_trackRead_45 rfl rfl ?_
    refine zr_sipush (pc := 46) (v := (486 : Int32)) h dX12_trackRead_46 (by decide) ?_
    obtain ⟨μ6, eμ6, hf⟩ := zBd_s hf
    refine zm_X12_171 (pc := 49) h gkc_267 ⟨by decide, by decide⟩ (cX12_asks_ok eμ6) rfl (Nat.le_of_ble_eq_true rfl) dX12_trackRead_49 rfl ?_
    refine zr_aload_n (pc := 52) h dX12_trackRead_52 rfl rfl ?_
    refine zr_aload_n (pc := 53) h dX12_trackRead_53 rfl rfl ?_
    refine zf_X12_21 (pc := 54) h gkc_267 dX12_trackRead_54 ?_
    refine zr_iconst (pc := 57) (v := (2 : Int32)) h dX12_trackRead_57 (by decide) ?_
    obtain ⟨x7, μ8, ex7, hf⟩ := zBp_s hf
    refine zm_X12_182 (pc := 58) h gkc_267 ⟨by decide, by decide⟩ (cX12_oneRead_ok gkc_270 ex7) rfl (Nat.le_of_ble_eq_true rfl) dX12_trackRead_58 rfl ?_
    refine zr_istore_n (pc := 61) h dX12_trackRead_61 rfl (by decide) rfl ?_
    refine zr_aload_n (pc := 62) h dX12_trackRead_62 rfl rfl ?_
    obtain ⟨x9, ex9, hf⟩ := zBd_s hf
    refine zm_X12_110 (pc := 63) h gkc_267 ⟨by decide, by decide⟩ (cX12_isFine_ok ex9) rfl (Nat.le_of_ble_eq_true rfl) dX12_trackRead_63 rfl ?_
    have hf := zIf_s hf
    refine zr_if_eq (pc := 66) (tgt := 94) h dX12_trackRead_66 rfl (fun b36 => ?_) (fun b36 => ?_)
    · have hf := hf.1 b36
      exact zr_weak h [true, true, true, true, false, false] (fX12_trackRead_n94_ok h hf)
    · have hf := hf.2 b36
      refine zr_aload_n (pc := 69) h dX12_trackRead_69 rfl rfl ?_
      refine zf_X12_21 (pc := 70) h gkc_267 dX12_trackRead_70 ?_
      refine zr_bipush (pc := 73) (v := (48 : Int32)) h dX12_trackRead_73 (by decide) ?_
      refine zr_iload_n (pc := 75) h dX12_trackRead_75 rfl rfl ?_
      refine zr_iadd (pc := 76) h dX12_trackRead_76 ?_
      obtain ⟨q32, hf⟩ := zCk_s hf
      refine zr_iald (pc := 77) h gkc_270 q32 rfl dX12_trackRead_77 ?_
      refine zr_iload_n (pc := 78) h dX12_trackRead_78 rfl rfl ?_
      obtain ⟨x33, ex33, hf⟩ := zBd_s hf
      refine zm_X12_186 (pc := 79) h ⟨by decide, by decide⟩ (cX12_isOf_ok ex33) rfl (Nat.le_of_ble_eq_true rfl) dX12_trackRead_79 rfl ?_
      have hf := zIf_s hf
      refine zr_if_ne (pc := 82) (tgt := 94) h dX12_trackRead_82 rfl (fun b35 => ?_) (fun b35 => ?_)
      · have hf := hf.2 b35
        exact zr_weak h [true, true, true, true, false, false] (fX12_trackRead_n94_ok h hf)
      · have hf := hf.1 b35
        refine zr_aload_n (pc := 85) h dX12_trackRead_85 rfl rfl ?_
        refine zr_iconst (pc := 86) (v := (5 : Int32)) h dX12_trackRead_86 (by decide) ?_
        refine zr_aload_n (pc := 87) h dX12_trackRead_87 rfl rfl ?_
        refine zf_X12_165 (pc := 88) h gkc_267 dX12_trackRead_88 ?_
        obtain ⟨μ34, eμ34, hf⟩ := zBd_s hf
        refine zm_X12_106 (pc := 91) h gkc_267 ⟨by decide, by decide⟩ (cX12_fail_ok eμ34) rfl (Nat.le_of_ble_eq_true rfl) dX12_trackRead_91 rfl ?_
        exact zr_weak h [true, true, true, true, false, false] (fX12_trackRead_n94_ok h hf)
  · have hf := hf.1 b37
    exact zr_vret (pc := 30) h dX12_trackRead_30 rfl (zRv hf)

set_option maxRecDepth 100000 in
set_option maxHeartbeats 4000000 in
theorem cX12_trackRead_ok {l : Launch} {g : gG} {μ : gM} {ν : gM} (hf : fX12_trackRead μ = some ν) : gMet l g yX12_trackRead cX12_trackRead 6 none 6 130 [.ref (g.1 + 267)] μ none ν := by
  refine gMet_of (gIni [.ref (g.1 + 267)] ++ List.replicate 5 none) (by decide) (gIni_ok _ _) (Nat.le_of_ble_eq_true rfl) (fun K h => ?_)
  show K 0 [some (.ref (g.1 + 267)), none, none, none, none, none] [] μ
  unfold fX12_trackRead at hf
  refine zr_aload_n (pc := 0) h dX12_trackRead_0 rfl rfl ?_
  refine zf_X12_21 (pc := 1) h gkc_267 dX12_trackRead_1 ?_
  refine zr_iconst (pc := 4) (v := (3 : Int32)) h dX12_trackRead_4 (by decide) ?_
  refine zr_iald (pc := 5) (q := 3) h gkc_270 rfl (by decide) dX12_trackRead_5 ?_
  refine zr_topi h (fun x1 ex1 => ?_)
  have hf := zLt_s ex1 hf
  refine zr_istore_n (pc := 6) h dX12_trackRead_6 rfl (by decide) rfl ?_
  refine zr_iload_n (pc := 7) h dX12_trackRead_7 rfl rfl ?_
  refine zr_bipush (pc := 8) (v := (24 : Int32)) h dX12_trackRead_8 (by decide) ?_
  have hf := zIf_s hf
  refine zr_icmp_ne (pc := 10) (tgt := 23) h dX12_trackRead_10 rfl (fun b41 => ?_) (fun b41 => ?_)
  · have hf := hf.2 b41
    exact zr_weak h [true, true, false, false, false, false] (fX12_trackRead_n23_ok h hf)
  · have hf := hf.1 b41
    refine zr_aload_n (pc := 13) h dX12_trackRead_13 rfl rfl ?_
    refine zr_bipush (pc := 14) (v := (6 : Int32)) h dX12_trackRead_14 (by decide) ?_
    refine zr_aload_n (pc := 16) h dX12_trackRead_16 rfl rfl ?_
    obtain ⟨x38, μ39, ex38, hf⟩ := zBp_s hf
    refine zm_X12_102 (pc := 17) h gkc_267 ⟨by decide, by decide⟩ (cX12_next_ok ex38) rfl (Nat.le_of_ble_eq_true rfl) dX12_trackRead_17 rfl ?_
    obtain ⟨μ40, eμ40, hf⟩ := zBd_s hf
    refine zm_X12_106 (pc := 20) h gkc_267 ⟨by decide, by decide⟩ (cX12_fail_ok eμ40) rfl (Nat.le_of_ble_eq_true rfl) dX12_trackRead_20 rfl ?_
    exact zr_weak h [true, true, false, false, false, false] (fX12_trackRead_n23_ok h hf)

set_option maxRecDepth 100000 in
set_option maxHeartbeats 4000000 in
theorem cX12_statementHere_ok {l : Launch} {g : gG} {μ : gM} {r : Int32} {ν : gM} (hf : fX12_statementHere μ = some (r, ν)) : gMet l g yX12_statementHere cX12_statementHere 1 (some .int) 4 88 [.ref (g.1 + 267)] μ (some (.int r)) ν := by
  refine gMet_of (gIni [.ref (g.1 + 267)] ++ List.replicate 0 none) (by decide) (gIni_ok _ _) (Nat.le_of_ble_eq_true rfl) (fun K h => ?_)
  show K 0 [some (.ref (g.1 + 267))] [] μ
  unfold fX12_statementHere at hf
  refine zr_aload_n (pc := 0) h dX12_statementHere_0 rfl rfl ?_
  refine zr_ldc (pc := 1) h zw_1484 dX12_statementHere_1 ?_
  obtain ⟨x1, μ2, ex1, hf⟩ := zBp_s hf
  refine zm_X12_136 (pc := 3) h gkc_267 ⟨by decide, by decide⟩ (cX12_isWord_ok ex1) rfl (Nat.le_of_ble_eq_true rfl) dX12_statementHere_3 rfl ?_
  have hf := zIf_s hf
  refine zr_if_eq (pc := 6) (tgt := 11) h dX12_statementHere_6 rfl (fun b15 => ?_) (fun b15 => ?_)
  · have hf := hf.1 b15
    refine zr_aload_n (pc := 11) h dX12_statementHere_11 rfl rfl ?_
    refine zr_ldc (pc := 12) h zw_1499 dX12_statementHere_12 ?_
    obtain ⟨x3, μ4, ex3, hf⟩ := zBp_s hf
    refine zm_X12_136 (pc := 14) h gkc_267 ⟨by decide, by decide⟩ (cX12_isWord_ok ex3) rfl (Nat.le_of_ble_eq_true rfl) dX12_statementHere_14 rfl ?_
    have hf := zIf_s hf
    refine zr_if_eq (pc := 17) (tgt := 22) h dX12_statementHere_17 rfl (fun b14 => ?_) (fun b14 => ?_)
    · have hf := hf.1 b14
      refine zr_aload_n (pc := 22) h dX12_statementHere_22 rfl rfl ?_
      refine zr_ldc (pc := 23) h zw_1500 dX12_statementHere_23 ?_
      obtain ⟨x5, μ6, ex5, hf⟩ := zBp_s hf
      refine zm_X12_136 (pc := 25) h gkc_267 ⟨by decide, by decide⟩ (cX12_isWord_ok ex5) rfl (Nat.le_of_ble_eq_true rfl) dX12_statementHere_25 rfl ?_
      have hf := zIf_s hf
      refine zr_if_eq (pc := 28) (tgt := 33) h dX12_statementHere_28 rfl (fun b13 => ?_) (fun b13 => ?_)
      · have hf := hf.1 b13
        refine zr_aload_n (pc := 33) h dX12_statementHere_33 rfl rfl ?_
        refine zr_ldc (pc := 34) h zw_1501 dX12_statementHere_34 ?_
        obtain ⟨x7, μ8, ex7, hf⟩ := zBp_s hf
        refine zm_X12_136 (pc := 36) h gkc_267 ⟨by decide, by decide⟩ (cX12_isWord_ok ex7) rfl (Nat.le_of_ble_eq_true rfl) dX12_statementHere_36 rfl ?_
        have hf := zIf_s hf
        refine zr_if_eq (pc := 39) (tgt := 44) h dX12_statementHere_39 rfl (fun b12 => ?_) (fun b12 => ?_)
        · have hf := hf.1 b12
          refine zr_aload_n (pc := 44) h dX12_statementHere_44 rfl rfl ?_
          refine zr_ldc (pc := 45) h zw_1502 dX12_statementHere_45 ?_
          obtain ⟨x9, μ10, ex9, hf⟩ := zBp_s hf
          refine zm_X12_136 (pc := 47) h gkc_267 ⟨by decide, by decide⟩ (cX12_isWord_ok ex9) rfl (Nat.le_of_ble_eq_true rfl) dX12_statementHere_47 rfl ?_
          have hf := zIf_s hf
          refine zr_if_eq (pc := 50) (tgt := 57) h dX12_statementHere_50 rfl (fun b11 => ?_) (fun b11 => ?_)
          · have hf := hf.1 b11
            refine zr_iconst (pc := 57) (v := (-1 : Int32)) h dX12_statementHere_57 (by decide) ?_
            exact zr_iret (pc := 58) h dX12_statementHere_58 (zRp hf).1 (zRp hf).2
          · have hf := hf.2 b11
            refine zr_iconst (pc := 53) (v := (4 : Int32)) h dX12_statementHere_53 (by decide) ?_
            refine zr_goto (pc := 54) (tgt := 58) h dX12_statementHere_54 rfl ?_
            exact zr_iret (pc := 58) h dX12_statementHere_58 (zRp hf).1 (zRp hf).2
        · have hf := hf.2 b12
          refine zr_iconst (pc := 42) (v := (3 : Int32)) h dX12_statementHere_42 (by decide) ?_
          exact zr_iret (pc := 43) h dX12_statementHere_43 (zRp hf).1 (zRp hf).2
      · have hf := hf.2 b13
        refine zr_iconst (pc := 31) (v := (2 : Int32)) h dX12_statementHere_31 (by decide) ?_
        exact zr_iret (pc := 32) h dX12_statementHere_32 (zRp hf).1 (zRp hf).2
    · have hf := hf.2 b14
      refine zr_iconst (pc := 20) (v := (1 : Int32)) h dX12_statementHere_20 (by decide) ?_
      exact zr_iret (pc := 21) h dX12_statementHere_21 (zRp hf).1 (zRp hf).2
  · have hf := hf.2 b15
    refine zr_iconst (pc := 9) (v := (0 : Int32)) h dX12_statementHere_9 (by decide) ?_
    exact zr_iret (pc := 10) h dX12_statementHere_10 (zRp hf).1 (zRp hf).2

set_option maxRecDepth 100000 in
set_option maxHeartbeats 4000000 in
theorem fX12_statement_n58_ok {l : Launch} {g : gG} {ν : gM} {K : gKt} (h : gR l g cX12_statement RX12 2 none (gRm 7 155) none ν K) {μ : gM} (hf : fX12_statement_n58 μ = some ν) : K 58 [some (.ref (g.1 + 267)), none] [] μ := by
  unfold fX12_statement_n58 at hf
  refine zr_aload_n (pc := 58) h dX12_statement_58 rfl rfl ?_
  refine zr_bipush (pc := 59) (v := (59 : Int32)) h dX12_statement_59 (by decide) ?_
  obtain ⟨μ4, eμ4, hf⟩ := zBd_s hf
  refine zm_X12_212 (pc := 61) h gkc_267 ⟨by decide, by decide⟩ (cX12_needsSign_ok eμ4) rfl (Nat.le_of_ble_eq_true rfl) dX12_statement_61 rfl ?_
  exact zr_vret (pc := 64) h dX12_statement_64 rfl (zRv hf)

set_option maxRecDepth 100000 in
set_option maxHeartbeats 4000000 in
theorem cX12_statement_ok {l : Launch} {g : gG} {μ : gM} {ν : gM} (hf : fX12_statement μ = some ν) : gMet l g yX12_statement cX12_statement 2 none 7 155 [.ref (g.1 + 267)] μ none ν := by
  refine gMet_of (gIni [.ref (g.1 + 267)] ++ List.replicate 1 none) (by decide) (gIni_ok _ _) (Nat.le_of_ble_eq_true rfl) (fun K h => ?_)
  show K 0 [some (.ref (g.1 + 267)), none] [] μ
  unfold fX12_statement at hf
  refine zr_aload_n (pc := 0) h dX12_statement_0 rfl rfl ?_
  obtain ⟨x1, μ2, ex1, hf⟩ := zBp_s hf
  refine zm_X12_197 (pc := 1) h gkc_267 ⟨by decide, by decide⟩ (cX12_statementHere_ok ex1) rfl (Nat.le_of_ble_eq_true rfl) dX12_statement_1 rfl ?_
  refine zr_istore_n (pc := 4) h dX12_statement_4 rfl (by decide) rfl ?_
  refine zr_iload_n (pc := 5) h dX12_statement_5 rfl rfl ?_
  refine zr_iconst (pc := 6) (v := (-1 : Int32)) h dX12_statement_6 (by decide) ?_
  have hf := zIf_s hf
  refine zr_icmp_ne (pc := 7) (tgt := 17) h dX12_statement_7 rfl (fun b12 => ?_) (fun b12 => ?_)
  · have hf := hf.2 b12
    refine zr_iload_n (pc := 17) h dX12_statement_17 rfl rfl ?_
    refine zr_iconst (pc := 18) (v := (2 : Int32)) h dX12_statement_18 (by decide) ?_
    have hf := zIf_s hf
    refine zr_icmp_ne (pc := 19) (tgt := 29) h dX12_statement_19 rfl (fun b10 => ?_) (fun b10 => ?_)
    · have hf := hf.2 b10
      refine zr_iload_n (pc := 29) h dX12_statement_29 rfl rfl ?_
      refine zr_iconst (pc := 30) (v := (2 : Int32)) h dX12_statement_30 (by decide) ?_
      have hf := zIf_s hf
      refine zr_icmp_ge (pc := 31) (tgt := 42) h dX12_statement_31 rfl (fun b8 => ?_) (fun b8 => ?_)
      · have hf := hf.1 b8
        refine zr_iload_n (pc := 42) h dX12_statement_42 rfl rfl ?_
        refine zr_iconst (pc := 43) (v := (3 : Int32)) h dX12_statement_43 (by decide) ?_
        have hf := zIf_s hf
        refine zr_icmp_ne (pc := 44) (tgt := 54) h dX12_statement_44 rfl (fun b6 => ?_) (fun b6 => ?_)
        · have hf := hf.2 b6
          refine zr_aload_n (pc := 54) h dX12_statement_54 rfl rfl ?_
          obtain ⟨μ3, eμ3, hf⟩ := zBd_s hf
          refine zm_X12_209 (pc := 55) h gkc_267 ⟨by decide, by decide⟩ (cX12_trackRead_ok eμ3) rfl (Nat.le_of_ble_eq_true rfl) dX12_statement_55 rfl ?_
          exact zr_weak h [true, false] (fX12_statement_n58_ok h hf)
        · have hf := hf.1 b6
          refine zr_aload_n (pc := 47) h dX12_statement_47 rfl rfl ?_
          obtain ⟨μ5, eμ5, hf⟩ := zBd_s hf
          refine zm_X12_206 (pc := 48) h gkc_267 ⟨by decide, by decide⟩ (cX12_memberRead_ok eμ5) rfl (Nat.le_of_ble_eq_true rfl) dX12_statement_48 rfl ?_
          refine zr_goto (pc := 51) (tgt := 58) h dX12_statement_51 rfl ?_
          exact zr_weak h [true, false] (fX12_statement_n58_ok h hf)
      · have hf := hf.2 b8
        refine zr_aload_n (pc := 34) h dX12_statement_34 rfl rfl ?_
        refine zr_iload_n (pc := 35) h dX12_statement_35 rfl rfl ?_
        obtain ⟨μ7, eμ7, hf⟩ := zBd_s hf
        refine zm_X12_203 (pc := 36) h gkc_267 ⟨by decide, by decide⟩ (cX12_namesRead_ok eμ7) rfl (Nat.le_of_ble_eq_true rfl) dX12_statement_36 rfl ?_
        refine zr_goto (pc := 39) (tgt := 58) h dX12_statement_39 rfl ?_
        exact zr_weak h [true, false] (fX12_statement_n58_ok h hf)
    · have hf := hf.1 b10
      refine zr_aload_n (pc := 22) h dX12_statement_22 rfl rfl ?_
      obtain ⟨μ9, eμ9, hf⟩ := zBd_s hf
      refine zm_X12_200 (pc := 23) h gkc_267 ⟨by decide, by decide⟩ (cX12_groupRead_ok eμ9) rfl (Nat.le_of_ble_eq_true rfl) dX12_statement_23 rfl ?_
      refine zr_goto (pc := 26) (tgt := 58) h dX12_statement_26 rfl ?_
      exact zr_weak h [true, false] (fX12_statement_n58_ok h hf)
  · have hf := hf.1 b12
    refine zr_aload_n (pc := 10) h dX12_statement_10 rfl rfl ?_
    obtain ⟨μ11, eμ11, hf⟩ := zBd_s hf
    refine zm_X12_121 (pc := 11) h gkc_267 ⟨by decide, by decide⟩ (cX12_unlike_ok eμ11) rfl (Nat.le_of_ble_eq_true rfl) dX12_statement_11 rfl ?_
    refine zr_goto (pc := 14) (tgt := 58) h dX12_statement_14 rfl ?_
    exact zr_weak h [true, false] (fX12_statement_n58_ok h hf)

set_option maxRecDepth 100000 in
set_option maxHeartbeats 4000000 in
theorem cX12_gates_ok {l : Launch} {g : gG} {μ : gM} {r : Int32} (hf : fX12_gates μ = some r) : gMet l g yX12_gates cX12_gates 1 (some .int) 0 0 [.ref (g.1 + 267)] μ (some (.int r)) μ := by
  refine gMet_of (gIni [.ref (g.1 + 267)] ++ List.replicate 0 none) (by decide) (gIni_ok _ _) (Nat.le_of_ble_eq_true rfl) (fun K h => ?_)
  show K 0 [some (.ref (g.1 + 267))] [] μ
  unfold fX12_gates at hf
  refine zr_aload_n (pc := 0) h dX12_gates_0 rfl rfl ?_
  refine zf_X12_17 (pc := 1) h gkc_267 dX12_gates_1 ?_
  refine zr_iconst (pc := 4) (v := (0 : Int32)) h dX12_gates_4 (by decide) ?_
  refine zr_iald (pc := 5) (q := 0) h gkc_269 rfl (by decide) dX12_gates_5 ?_
  exact zr_iret (pc := 6) h dX12_gates_6 (zRi hf) rfl

set_option maxRecDepth 100000 in
set_option maxHeartbeats 4000000 in
theorem cX12_groups_ok {l : Launch} {g : gG} {μ : gM} {r : Int32} (hf : fX12_groups μ = some r) : gMet l g yX12_groups cX12_groups 1 (some .int) 0 0 [.ref (g.1 + 267)] μ (some (.int r)) μ := by
  refine gMet_of (gIni [.ref (g.1 + 267)] ++ List.replicate 0 none) (by decide) (gIni_ok _ _) (Nat.le_of_ble_eq_true rfl) (fun K h => ?_)
  show K 0 [some (.ref (g.1 + 267))] [] μ
  unfold fX12_groups at hf
  refine zr_aload_n (pc := 0) h dX12_groups_0 rfl rfl ?_
  refine zf_X12_17 (pc := 1) h gkc_267 dX12_groups_1 ?_
  refine zr_iconst (pc := 4) (v := (2 : Int32)) h dX12_groups_4 (by decide) ?_
  refine zr_iald (pc := 5) (q := 2) h gkc_269 rfl (by decide) dX12_groups_5 ?_
  exact zr_iret (pc := 6) h dX12_groups_6 (zRi hf) rfl

set_option maxRecDepth 100000 in
set_option maxHeartbeats 4000000 in
theorem cX12_isGroup_ok {l : Launch} {g : gG} {a1 : Int32} {μ : gM} {r : Int32} (hf : fX12_isGroup a1 μ = some r) : gMet l g yX12_isGroup cX12_isGroup 2 (some .boolean) 1 25 [.ref (g.1 + 267), .int a1] μ (some (.int r)) μ := by
  refine gMet_of (gIni [.ref (g.1 + 267), .int a1] ++ List.replicate 0 none) (by decide) (gIni_ok _ _) (Nat.le_of_ble_eq_true rfl) (fun K h => ?_)
  show K 0 [some (.ref (g.1 + 267)), some (.int a1)] [] μ
  unfold fX12_isGroup at hf
  refine zr_iload_n (pc := 0) h dX12_isGroup_0 rfl rfl ?_
  refine zr_i2l (pc := 1) h dX12_isGroup_1 ?_
  refine zr_lconst (pc := 2) (v := (0 : Int64)) h dX12_isGroup_2 (by decide) ?_
  refine zr_aload_n (pc := 3) h dX12_isGroup_3 rfl rfl ?_
  obtain ⟨x1, ex1, hf⟩ := zBd_s hf
  refine zm_X12_253 (pc := 4) h gkc_267 ⟨by decide, by decide⟩ (cX12_groups_ok ex1) rfl (Nat.le_of_ble_eq_true rfl) dX12_isGroup_4 rfl ?_
  refine zr_iconst (pc := 7) (v := (1 : Int32)) h dX12_isGroup_7 (by decide) ?_
  refine zr_isub (pc := 8) h dX12_isGroup_8 ?_
  refine zr_i2l (pc := 9) h dX12_isGroup_9 ?_
  obtain ⟨x2, ex2, hf⟩ := zBd_s hf
  refine zm_X12_56 (pc := 10) h ⟨by decide, by decide⟩ (cX12_isIn_ok ex2) rfl (Nat.le_of_ble_eq_true rfl) dX12_isGroup_10 rfl ?_
  obtain ⟨q3, hf⟩ := zCk_s hf
  exact zr_zret (pc := 13) h (zBoo q3) dX12_isGroup_13 (zRi hf) rfl

set_option maxRecDepth 100000 in
set_option maxHeartbeats 4000000 in
theorem cX12_isGate_ok {l : Launch} {g : gG} {a1 : Int32} {μ : gM} {r : Int32} (hf : fX12_isGate a1 μ = some r) : gMet l g yX12_isGate cX12_isGate 2 (some .boolean) 1 25 [.ref (g.1 + 267), .int a1] μ (some (.int r)) μ := by
  refine gMet_of (gIni [.ref (g.1 + 267), .int a1] ++ List.replicate 0 none) (by decide) (gIni_ok _ _) (Nat.le_of_ble_eq_true rfl) (fun K h => ?_)
  show K 0 [some (.ref (g.1 + 267)), some (.int a1)] [] μ
  unfold fX12_isGate at hf
  refine zr_iload_n (pc := 0) h dX12_isGate_0 rfl rfl ?_
  refine zr_i2l (pc := 1) h dX12_isGate_1 ?_
  refine zr_lconst (pc := 2) (v := (0 : Int64)) h dX12_isGate_2 (by decide) ?_
  refine zr_aload_n (pc := 3) h dX12_isGate_3 rfl rfl ?_
  obtain ⟨x1, ex1, hf⟩ := zBd_s hf
  refine zm_X12_256 (pc := 4) h gkc_267 ⟨by decide, by decide⟩ (cX12_gates_ok ex1) rfl (Nat.le_of_ble_eq_true rfl) dX12_isGate_4 rfl ?_
  refine zr_iconst (pc := 7) (v := (1 : Int32)) h dX12_isGate_7 (by decide) ?_
  refine zr_isub (pc := 8) h dX12_isGate_8 ?_
  refine zr_i2l (pc := 9) h dX12_isGate_9 ?_
  obtain ⟨x2, ex2, hf⟩ := zBd_s hf
  refine zm_X12_56 (pc := 10) h ⟨by decide, by decide⟩ (cX12_isIn_ok ex2) rfl (Nat.le_of_ble_eq_true rfl) dX12_isGate_10 rfl ?_
  obtain ⟨q3, hf⟩ := zCk_s hf
  exact zr_zret (pc := 13) h (zBoo q3) dX12_isGate_13 (zRi hf) rfl

set_option maxRecDepth 100000 in
set_option maxHeartbeats 4000000 in
theorem cX12_isMember_ok {l : Launch} {g : gG} {a1 : Int32} {a2 : Int32} {μ : gM} {r : Int32} (hf : fX12_isMember a1 a2 μ = some r) : gMet l g yX12_isMember cX12_isMember 3 (some .boolean) 2 46 [.ref (g.1 + 267), .int a1, .int a2] μ (some (.int r)) μ := by
  refine gMet_of (gIni [.ref (g.1 + 267), .int a1, .int a2] ++ List.replicate 0 none) (by decide) (gIni_ok _ _) (Nat.le_of_ble_eq_true rfl) (fun K h => ?_)
  show K 0 [some (.ref (g.1 + 267)), some (.int a1), some (.int a2)] [] μ
  unfold fX12_isMember at hf
  refine zr_aload_n (pc := 0) h dX12_isMember_0 rfl rfl ?_
  refine zr_iload_n (pc := 1) h dX12_isMember_1 rfl rfl ?_
  obtain ⟨x1, ex1, hf⟩ := zBd_s hf
  refine zm_X12_259 (pc := 2) h gkc_267 ⟨by decide, by decide⟩ (cX12_isGroup_ok ex1) rfl (Nat.le_of_ble_eq_true rfl) dX12_isMember_2 rfl ?_
  have hf := zIf_s hf
  refine zr_if_eq (pc := 5) (tgt := 36) h dX12_isMember_5 rfl (fun b7 => ?_) (fun b7 => ?_)
  · have hf := hf.1 b7
    refine zr_iconst (pc := 36) (v := (0 : Int32)) h dX12_isMember_36 (by decide) ?_
    exact zr_zret (pc := 37) h rfl dX12_isMember_37 (zRi hf) rfl
  · have hf := hf.2 b7
    refine zr_aload_n (pc := 8) h dX12_isMember_8 rfl rfl ?_
    refine zr_iload_n (pc := 9) h dX12_isMember_9 rfl rfl ?_
    obtain ⟨x2, ex2, hf⟩ := zBd_s hf
    refine zm_X12_262 (pc := 10) h gkc_267 ⟨by decide, by decide⟩ (cX12_isGate_ok ex2) rfl (Nat.le_of_ble_eq_true rfl) dX12_isMember_10 rfl ?_
    have hf := zIf_s hf
    refine zr_if_eq (pc := 13) (tgt := 36) h dX12_isMember_13 rfl (fun b6 => ?_) (fun b6 => ?_)
    · have hf := hf.1 b6
      refine zr_iconst (pc := 36) (v := (0 : Int32)) h dX12_isMember_36 (by decide) ?_
      exact zr_zret (pc := 37) h rfl dX12_isMember_37 (zRi hf) rfl
    · have hf := hf.2 b6
      refine zr_aload_n (pc := 16) h dX12_isMember_16 rfl rfl ?_
      refine zf_X12_17 (pc := 17) h gkc_267 dX12_isMember_17 ?_
      refine zr_bipush (pc := 20) (v := (48 : Int32)) h dX12_isMember_20 (by decide) ?_
      refine zr_iload_n (pc := 22) h dX12_isMember_22 rfl rfl ?_
      refine zr_iadd (pc := 23) h dX12_isMember_23 ?_
      obtain ⟨q3, hf⟩ := zCk_s hf
      refine zr_iald (pc := 24) h gkc_269 q3 rfl dX12_isMember_24 ?_
      refine zr_iload_n (pc := 25) h dX12_isMember_25 rfl rfl ?_
      obtain ⟨x4, ex4, hf⟩ := zBd_s hf
      refine zm_X12_186 (pc := 26) h ⟨by decide, by decide⟩ (cX12_isOf_ok ex4) rfl (Nat.le_of_ble_eq_true rfl) dX12_isMember_26 rfl ?_
      have hf := zIf_s hf
      refine zr_if_eq (pc := 29) (tgt := 36) h dX12_isMember_29 rfl (fun b5 => ?_) (fun b5 => ?_)
      · have hf := hf.1 b5
        refine zr_iconst (pc := 36) (v := (0 : Int32)) h dX12_isMember_36 (by decide) ?_
        exact zr_zret (pc := 37) h rfl dX12_isMember_37 (zRi hf) rfl
      · have hf := hf.2 b5
        refine zr_iconst (pc := 32) (v := (1 : Int32)) h dX12_isMember_32 (by decide) ?_
        refine zr_goto (pc := 33) (tgt := 37) h dX12_isMember_33 rfl ?_
        exact zr_zret (pc := 37) h rfl dX12_isMember_37 (zRi hf) rfl

set_option maxRecDepth 100000 in
set_option maxHeartbeats 4000000 in
theorem fX12_wordOf_l26_ok {l : Launch} {g : gG} {r : Int32} {μe : gM} {K : gKt} (h : gR l g cX12_wordOf RX12 5 (some .int) (gRm 1 21) (some (.int r)) μe K) : ∀ (n : Nat) (y1 : Int32) (y2 : Int32) (y3 : Int32) (y4 : Int32), fX12_wordOf_l26 n y1 y2 y3 y4 μe = some r → K 26 [some (.ref (g.1 + 267)), some (.int y1), some (.int y2), some (.int y3), some (.int y4)] [] μe := by
  intro n
  induction n with
  | zero =>
    intro y1 y2 y3 y4 hf
    cases (show (none : Option Int32) = some _ from hf)
  | succ n ih =>
    intro y1 y2 y3 y4 hf
    unfold fX12_wordOf_l26 at hf
    refine zr_iload (pc := 26) h dX12_wordOf_26 rfl ?_
    refine zr_aload_n (pc := 28) h dX12_wordOf_28 rfl rfl ?_
    refine zf_X12_17 (pc := 29) h gkc_267 dX12_wordOf_29 ?_
    refine zr_iconst (pc := 32) (v := (3 : Int32)) h dX12_wordOf_32 (by decide) ?_
    refine zr_iald (pc := 33) (q := 3) h gkc_269 rfl (by decide) dX12_wordOf_33 ?_
    have hf := zIf_s hf
    refine zr_icmp_ge (pc := 34) (tgt := 120) h dX12_wordOf_34 rfl (fun b18 => ?_) (fun b18 => ?_)
    · have hf := hf.1 b18
      refine zr_iconst (pc := 120) (v := (1 : Int32)) h dX12_wordOf_120 (by decide) ?_
      refine zr_iload_n (pc := 121) h dX12_wordOf_121 rfl rfl ?_
      obtain ⟨x4, ex4, hf⟩ := zBd_s hf
      refine zm_X12_265 (pc := 122) h ⟨by decide, by decide⟩ (cX12_greater_ok ex4) rfl (Nat.le_of_ble_eq_true rfl) dX12_wordOf_122 rfl ?_
      exact zr_iret (pc := 125) h dX12_wordOf_125 (zRi hf) rfl
    · have hf := hf.2 b18
      refine zr_aload_n (pc := 37) h dX12_wordOf_37 rfl rfl ?_
      refine zf_X12_17 (pc := 38) h gkc_267 dX12_wordOf_38 ?_
      refine zr_bipush (pc := 41) (v := (113 : Int32)) h dX12_wordOf_41 (by decide) ?_
      refine zr_iconst (pc := 43) (v := (4 : Int32)) h dX12_wordOf_43 (by decide) ?_
      refine zr_iload (pc := 44) h dX12_wordOf_44 rfl ?_
      refine zr_imul (pc := 46) h dX12_wordOf_46 ?_
      refine zr_iadd (pc := 47) h dX12_wordOf_47 ?_
      obtain ⟨q5, hf⟩ := zCk_s hf
      refine zr_iald (pc := 48) h gkc_269 q5 rfl dX12_wordOf_48 ?_
      refine zr_iload_n (pc := 49) h dX12_wordOf_49 rfl rfl ?_
      have hf := zIf_s hf
      refine zr_icmp_ne (pc := 50) (tgt := 114) h dX12_wordOf_50 rfl (fun b17 => ?_) (fun b17 => ?_)
      · have hf := hf.2 b17
        refine zr_iincx (pc := 114) h dX12_wordOf_114 rfl (by decide) rfl (c := (1 : Int32)) (by decide) (fun x6 ex6 => ?_)
        have hf := zLt_s ex6 hf
        refine zr_goto (pc := 117) (tgt := 26) h dX12_wordOf_117 rfl ?_
        exact zr_weak h [true, true, true, true, true] (ih _ _ _ _ hf)
      · have hf := hf.1 b17
        refine zr_aload_n (pc := 53) h dX12_wordOf_53 rfl rfl ?_
        refine zf_X12_17 (pc := 54) h gkc_267 dX12_wordOf_54 ?_
        refine zr_bipush (pc := 57) (v := (113 : Int32)) h dX12_wordOf_57 (by decide) ?_
        refine zr_iconst (pc := 59) (v := (4 : Int32)) h dX12_wordOf_59 (by decide) ?_
        refine zr_iload (pc := 60) h dX12_wordOf_60 rfl ?_
        refine zr_imul (pc := 62) h dX12_wordOf_62 ?_
        refine zr_iadd (pc := 63) h dX12_wordOf_63 ?_
        refine zr_iconst (pc := 64) (v := (1 : Int32)) h dX12_wordOf_64 (by decide) ?_
        refine zr_iadd (pc := 65) h dX12_wordOf_65 ?_
        obtain ⟨q7, hf⟩ := zCk_s hf
        refine zr_iald (pc := 66) h gkc_269 q7 rfl dX12_wordOf_66 ?_
        refine zr_iload_n (pc := 67) h dX12_wordOf_67 rfl rfl ?_
        have hf := zIf_s hf
        refine zr_icmp_ne (pc := 68) (tgt := 114) h dX12_wordOf_68 rfl (fun b16 => ?_) (fun b16 => ?_)
        · have hf := hf.2 b16
          refine zr_iincx (pc := 114) h dX12_wordOf_114 rfl (by decide) rfl (c := (1 : Int32)) (by decide) (fun x8 ex8 => ?_)
          have hf := zLt_s ex8 hf
          refine zr_goto (pc := 117) (tgt := 26) h dX12_wordOf_117 rfl ?_
          exact zr_weak h [true, true, true, true, true] (ih _ _ _ _ hf)
        · have hf := hf.1 b16
          refine zr_aload_n (pc := 71) h dX12_wordOf_71 rfl rfl ?_
          refine zf_X12_27 (pc := 72) h gkc_267 dX12_wordOf_72 ?_
          refine zr_iconst (pc := 75) (v := (2 : Int32)) h dX12_wordOf_75 (by decide) ?_
          refine zr_iald (pc := 76) (q := 2) h gkc_272 rfl (by decide) dX12_wordOf_76 ?_
          refine zr_aload_n (pc := 77) h dX12_wordOf_77 rfl rfl ?_
          refine zf_X12_17 (pc := 78) h gkc_267 dX12_wordOf_78 ?_
          refine zr_bipush (pc := 81) (v := (113 : Int32)) h dX12_wordOf_81 (by decide) ?_
          refine zr_iconst (pc := 83) (v := (4 : Int32)) h dX12_wordOf_83 (by decide) ?_
          refine zr_iload (pc := 84) h dX12_wordOf_84 rfl ?_
          refine zr_imul (pc := 86) h dX12_wordOf_86 ?_
          refine zr_iadd (pc := 87) h dX12_wordOf_87 ?_
          refine zr_iconst (pc := 88) (v := (2 : Int32)) h dX12_wordOf_88 (by decide) ?_
          refine zr_iadd (pc := 89) h dX12_wordOf_89 ?_
          obtain ⟨q9, hf⟩ := zCk_s hf
          refine zr_iald (pc := 90) h gkc_269 q9 rfl dX12_wordOf_90 ?_
          obtain ⟨x10, ex10, hf⟩ := zBd_s hf
          refine zm_X12_186 (pc := 91) h ⟨by decide, by decide⟩ (cX12_isOf_ok ex10) rfl (Nat.le_of_ble_eq_true rfl) dX12_wordOf_91 rfl ?_
          have hf := zIf_s hf
          refine zr_if_eq (pc := 94) (tgt := 114) h dX12_wordOf_94 rfl (fun b15 => ?_) (fun b15 => ?_)
          · have hf := hf.1 b15
            refine zr_iincx (pc := 114) h dX12_wordOf_114 rfl (by decide) rfl (c := (1 : Int32)) (by decide) (fun x11 ex11 => ?_)
            have hf := zLt_s ex11 hf
            refine zr_goto (pc := 117) (tgt := 26) h dX12_wordOf_117 rfl ?_
            exact zr_weak h [true, true, true, true, true] (ih _ _ _ _ hf)
          · have hf := hf.2 b15
            refine zr_iload_n (pc := 97) h dX12_wordOf_97 rfl rfl ?_
            refine zr_aload_n (pc := 98) h dX12_wordOf_98 rfl rfl ?_
            refine zf_X12_17 (pc := 99) h gkc_267 dX12_wordOf_99 ?_
            refine zr_bipush (pc := 102) (v := (113 : Int32)) h dX12_wordOf_102 (by decide) ?_
            refine zr_iconst (pc := 104) (v := (4 : Int32)) h dX12_wordOf_104 (by decide) ?_
            refine zr_iload (pc := 105) h dX12_wordOf_105 rfl ?_
            refine zr_imul (pc := 107) h dX12_wordOf_107 ?_
            refine zr_iadd (pc := 108) h dX12_wordOf_108 ?_
            refine zr_iconst (pc := 109) (v := (3 : Int32)) h dX12_wordOf_109 (by decide) ?_
            refine zr_iadd (pc := 110) h dX12_wordOf_110 ?_
            obtain ⟨q12, hf⟩ := zCk_s hf
            refine zr_iald (pc := 111) h gkc_269 q12 rfl dX12_wordOf_111 ?_
            refine zr_isub (pc := 112) h dX12_wordOf_112 ?_
            refine zr_topi h (fun x13 ex13 => ?_)
            have hf := zLt_s ex13 hf
            refine zr_istore_n (pc := 113) h dX12_wordOf_113 rfl (by decide) rfl ?_
            refine zr_iincx (pc := 114) h dX12_wordOf_114 rfl (by decide) rfl (c := (1 : Int32)) (by decide) (fun x14 ex14 => ?_)
            have hf := zLt_s ex14 hf
            refine zr_goto (pc := 117) (tgt := 26) h dX12_wordOf_117 rfl ?_
            exact zr_weak h [true, true, true, true, true] (ih _ _ _ _ hf)

set_option maxRecDepth 100000 in
set_option maxHeartbeats 4000000 in
theorem cX12_wordOf_ok {l : Launch} {g : gG} {a1 : Int32} {a2 : Int32} {μ : gM} {r : Int32} (hf : fX12_wordOf a1 a2 μ = some r) : gMet l g yX12_wordOf cX12_wordOf 5 (some .int) 1 21 [.ref (g.1 + 267), .int a1, .int a2] μ (some (.int r)) μ := by
  refine gMet_of (gIni [.ref (g.1 + 267), .int a1, .int a2] ++ List.replicate 2 none) (by decide) (gIni_ok _ _) (Nat.le_of_ble_eq_true rfl) (fun K h => ?_)
  show K 0 [some (.ref (g.1 + 267)), some (.int a1), some (.int a2), none, none] [] μ
  unfold fX12_wordOf at hf
  refine zr_aload_n (pc := 0) h dX12_wordOf_0 rfl rfl ?_
  refine zf_X12_27 (pc := 1) h gkc_267 dX12_wordOf_1 ?_
  refine zr_bipush (pc := 4) (v := (10 : Int32)) h dX12_wordOf_4 (by decide) ?_
  refine zr_iload_n (pc := 6) h dX12_wordOf_6 rfl rfl ?_
  refine zr_iload_n (pc := 7) h dX12_wordOf_7 rfl rfl ?_
  obtain ⟨x1, ex1, hf⟩ := zBd_s hf
  refine zm_X12_190 (pc := 8) h ⟨by decide, by decide⟩ (cX12_of_ok ex1) rfl (Nat.le_of_ble_eq_true rfl) dX12_wordOf_8 rfl ?_
  refine zr_iadd (pc := 11) h dX12_wordOf_11 ?_
  obtain ⟨q2, hf⟩ := zCk_s hf
  refine zr_iald (pc := 12) h gkc_272 q2 rfl dX12_wordOf_12 ?_
  refine zr_topi h (fun x3 ex3 => ?_)
  have hf := zLt_s ex3 hf
  refine zr_istore_n (pc := 13) h dX12_wordOf_13 rfl (by decide) rfl ?_
  refine zr_iload_n (pc := 14) h dX12_wordOf_14 rfl rfl ?_
  refine zr_sipush (pc := 15) (v := (255 : Int32)) h dX12_wordOf_15 (by decide) ?_
  have hf := zIf_s hf
  refine zr_icmp_ne (pc := 18) (tgt := 23) h dX12_wordOf_18 rfl (fun b19 => ?_) (fun b19 => ?_)
  · have hf := hf.2 b19
    refine zr_iconst (pc := 23) (v := (0 : Int32)) h dX12_wordOf_23 (by decide) ?_
    refine zr_istore (pc := 24) h dX12_wordOf_24 (by decide) rfl ?_
    exact zr_weak h [true, true, true, true, true] (fX12_wordOf_l26_ok h 100000 _ _ _ _ hf)
  · have hf := hf.1 b19
    refine zr_iload_n (pc := 21) h dX12_wordOf_21 rfl rfl ?_
    exact zr_iret (pc := 22) h dX12_wordOf_22 (zRi hf) rfl

set_option maxRecDepth 100000 in
set_option maxHeartbeats 4000000 in
theorem fX12_logs_l24_ok {l : Launch} {g : gG} {ν : gM} {K : gKt} (h : gR l g cX12_logs RX12 6 none (gRm 1 21) none ν K) : ∀ (n : Nat) (y1 : Int32) (y2 : Int32) (y3 : Int32) (y4 : Int32) (y5 : Int32) (μ : gM), fX12_logs_l24 n y1 y2 y3 y4 y5 μ = some ν → K 24 [some (.ref (g.1 + 267)), some (.int y1), some (.int y2), some (.int y3), some (.int y4), some (.int y5)] [] μ := by
  intro n
  induction n with
  | zero =>
    intro y1 y2 y3 y4 y5 μ hf
    cases (show (none : Option gM) = some _ from hf)
  | succ n ih =>
    intro y1 y2 y3 y4 y5 μ hf
    unfold fX12_logs_l24 at hf
    refine zr_iload (pc := 24) h dX12_logs_24 rfl ?_
    refine zr_iconst (pc := 26) (v := (4 : Int32)) h dX12_logs_26 (by decide) ?_
    have hf := zIf_s hf
    refine zr_icmp_lt (pc := 27) (tgt := 60) h dX12_logs_27 rfl (fun b12 => ?_) (fun b12 => ?_)
    · have hf := hf.1 b12
      refine zr_aload_n (pc := 60) h dX12_logs_60 rfl rfl ?_
      refine zf_X12_27 (pc := 61) h gkc_267 dX12_logs_61 ?_
      refine zr_sipush (pc := 64) (v := (245 : Int32)) h dX12_logs_64 (by decide) ?_
      refine zr_aload_n (pc := 67) h dX12_logs_67 rfl rfl ?_
      refine zf_X12_27 (pc := 68) h gkc_267 dX12_logs_68 ?_
      refine zr_iconst (pc := 71) (v := (0 : Int32)) h dX12_logs_71 (by decide) ?_
      refine zr_iald (pc := 72) (q := 0) h gkc_272 rfl (by decide) dX12_logs_72 ?_
      refine zr_iast (pc := 73) (q := 245) h gkc_272 rfl (by decide) dX12_logs_73 ?_
      refine zr_mu h (fun μ3 eμ3 => ?_)
      have hf := zLt_s eμ3 hf
      refine zr_aload_n (pc := 74) h dX12_logs_74 rfl rfl ?_
      refine zf_X12_27 (pc := 75) h gkc_267 dX12_logs_75 ?_
      refine zr_sipush (pc := 78) (v := (246 : Int32)) h dX12_logs_78 (by decide) ?_
      refine zr_iload_n (pc := 81) h dX12_logs_81 rfl rfl ?_
      refine zr_iast (pc := 82) (q := 246) h gkc_272 rfl (by decide) dX12_logs_82 ?_
      refine zr_mu h (fun μ4 eμ4 => ?_)
      have hf := zLt_s eμ4 hf
      refine zr_aload_n (pc := 83) h dX12_logs_83 rfl rfl ?_
      refine zf_X12_27 (pc := 84) h gkc_267 dX12_logs_84 ?_
      refine zr_sipush (pc := 87) (v := (247 : Int32)) h dX12_logs_87 (by decide) ?_
      refine zr_iload_n (pc := 90) h dX12_logs_90 rfl rfl ?_
      refine zr_iast (pc := 91) (q := 247) h gkc_272 rfl (by decide) dX12_logs_91 ?_
      refine zr_mu h (fun μ5 eμ5 => ?_)
      have hf := zLt_s eμ5 hf
      refine zr_aload_n (pc := 92) h dX12_logs_92 rfl rfl ?_
      refine zf_X12_27 (pc := 93) h gkc_267 dX12_logs_93 ?_
      refine zr_sipush (pc := 96) (v := (248 : Int32)) h dX12_logs_96 (by decide) ?_
      refine zr_iload_n (pc := 99) h dX12_logs_99 rfl rfl ?_
      refine zr_iast (pc := 100) (q := 248) h gkc_272 rfl (by decide) dX12_logs_100 ?_
      refine zr_mu h (fun μ6 eμ6 => ?_)
      have hf := zLt_s eμ6 hf
      refine zr_aload_n (pc := 101) h dX12_logs_101 rfl rfl ?_
      refine zf_X12_27 (pc := 102) h gkc_267 dX12_logs_102 ?_
      refine zr_bipush (pc := 105) (v := (7 : Int32)) h dX12_logs_105 (by decide) ?_
      refine zr_iload (pc := 107) h dX12_logs_107 rfl ?_
      refine zr_iast (pc := 109) (q := 7) h gkc_272 rfl (by decide) dX12_logs_109 ?_
      refine zr_mu h (fun μ7 eμ7 => ?_)
      have hf := zLt_s eμ7 hf
      exact zr_vret (pc := 110) h dX12_logs_110 rfl (zRv hf)
    · have hf := hf.2 b12
      refine zr_aload_n (pc := 30) h dX12_logs_30 rfl rfl ?_
      refine zf_X12_27 (pc := 31) h gkc_267 dX12_logs_31 ?_
      refine zr_sipush (pc := 34) (v := (245 : Int32)) h dX12_logs_34 (by decide) ?_
      refine zr_iload (pc := 37) h dX12_logs_37 rfl ?_
      refine zr_iadd (pc := 39) h dX12_logs_39 ?_
      refine zr_aload_n (pc := 40) h dX12_logs_40 rfl rfl ?_
      refine zf_X12_27 (pc := 41) h gkc_267 dX12_logs_41 ?_
      refine zr_sipush (pc := 44) (v := (245 : Int32)) h dX12_logs_44 (by decide) ?_
      refine zr_iload (pc := 47) h dX12_logs_47 rfl ?_
      refine zr_iadd (pc := 49) h dX12_logs_49 ?_
      refine zr_iconst (pc := 50) (v := (4 : Int32)) h dX12_logs_50 (by decide) ?_
      refine zr_isub (pc := 51) h dX12_logs_51 ?_
      obtain ⟨q8, hf⟩ := zCk_s hf
      refine zr_iald (pc := 52) h gkc_272 q8 rfl dX12_logs_52 ?_
      obtain ⟨q9, hf⟩ := zCk_s hf
      refine zr_iast (pc := 53) h gkc_272 q9 rfl dX12_logs_53 ?_
      refine zr_mu h (fun μ10 eμ10 => ?_)
      have hf := zLt_s eμ10 hf
      refine zr_iincx (pc := 54) h dX12_logs_54 rfl (by decide) rfl (c := (-1 : Int32)) (by decide) (fun x11 ex11 => ?_)
      have hf := zLt_s ex11 hf
      refine zr_goto (pc := 57) (tgt := 24) h dX12_logs_57 rfl ?_
      exact zr_weak h [true, true, true, true, true, true] (ih _ _ _ _ _ _ hf)

set_option maxRecDepth 100000 in
set_option maxHeartbeats 4000000 in
theorem cX12_logs_ok {l : Launch} {g : gG} {a1 : Int32} {a2 : Int32} {a3 : Int32} {μ : gM} {ν : gM} (hf : fX12_logs a1 a2 a3 μ = some ν) : gMet l g yX12_logs cX12_logs 6 none 1 21 [.ref (g.1 + 267), .int a1, .int a2, .int a3] μ none ν := by
  refine gMet_of (gIni [.ref (g.1 + 267), .int a1, .int a2, .int a3] ++ List.replicate 2 none) (by decide) (gIni_ok _ _) (Nat.le_of_ble_eq_true rfl) (fun K h => ?_)
  show K 0 [some (.ref (g.1 + 267)), some (.int a1), some (.int a2), some (.int a3), none, none] [] μ
  unfold fX12_logs at hf
  refine zr_aload_n (pc := 0) h dX12_logs_0 rfl rfl ?_
  refine zf_X12_27 (pc := 1) h gkc_267 dX12_logs_1 ?_
  refine zr_bipush (pc := 4) (v := (7 : Int32)) h dX12_logs_4 (by decide) ?_
  refine zr_iald (pc := 6) (q := 7) h gkc_272 rfl (by decide) dX12_logs_6 ?_
  refine zr_iconst (pc := 7) (v := (1 : Int32)) h dX12_logs_7 (by decide) ?_
  refine zr_iadd (pc := 8) h dX12_logs_8 ?_
  refine zr_bipush (pc := 9) (v := (60 : Int32)) h dX12_logs_9 (by decide) ?_
  obtain ⟨x1, ex1, hf⟩ := zBd_s hf
  refine zm_X12_274 (pc := 11) h ⟨by decide, by decide⟩ (cX12_lesser_ok ex1) rfl (Nat.le_of_ble_eq_true rfl) dX12_logs_11 rfl ?_
  refine zr_istore (pc := 14) h dX12_logs_14 (by decide) rfl ?_
  refine zr_iconst (pc := 16) (v := (4 : Int32)) h dX12_logs_16 (by decide) ?_
  refine zr_iload (pc := 17) h dX12_logs_17 rfl ?_
  refine zr_imul (pc := 19) h dX12_logs_19 ?_
  refine zr_iconst (pc := 20) (v := (1 : Int32)) h dX12_logs_20 (by decide) ?_
  refine zr_isub (pc := 21) h dX12_logs_21 ?_
  refine zr_topi h (fun x2 ex2 => ?_)
  have hf := zLt_s ex2 hf
  refine zr_istore (pc := 22) h dX12_logs_22 (by decide) rfl ?_
  exact zr_weak h [true, true, true, true, true, true] (fX12_logs_l24_ok h 100000 _ _ _ _ _ _ hf)

set_option maxRecDepth 100000 in
set_option maxHeartbeats 4000000 in
theorem cX12_toHold_ok {l : Launch} {g : gG} {a1 : Int32} {a2 : Int32} {μ : gM} {ν : gM} (hf : fX12_toHold a1 a2 μ = some ν) : gMet l g yX12_toHold cX12_toHold 3 none 2 46 [.ref (g.1 + 267), .int a1, .int a2] μ none ν := by
  refine gMet_of (gIni [.ref (g.1 + 267), .int a1, .int a2] ++ List.replicate 0 none) (by decide) (gIni_ok _ _) (Nat.le_of_ble_eq_true rfl) (fun K h => ?_)
  show K 0 [some (.ref (g.1 + 267)), some (.int a1), some (.int a2)] [] μ
  unfold fX12_toHold at hf
  refine zr_aload_n (pc := 0) h dX12_toHold_0 rfl rfl ?_
  refine zf_X12_27 (pc := 1) h gkc_267 dX12_toHold_1 ?_
  refine zr_bipush (pc := 4) (v := (40 : Int32)) h dX12_toHold_4 (by decide) ?_
  refine zr_iload_n (pc := 6) h dX12_toHold_6 rfl rfl ?_
  refine zr_iload_n (pc := 7) h dX12_toHold_7 rfl rfl ?_
  obtain ⟨x1, ex1, hf⟩ := zBd_s hf
  refine zm_X12_190 (pc := 8) h ⟨by decide, by decide⟩ (cX12_of_ok ex1) rfl (Nat.le_of_ble_eq_true rfl) dX12_toHold_8 rfl ?_
  refine zr_iadd (pc := 11) h dX12_toHold_11 ?_
  refine zr_iconst (pc := 12) (v := (2 : Int32)) h dX12_toHold_12 (by decide) ?_
  obtain ⟨q2, hf⟩ := zCk_s hf
  refine zr_iast (pc := 13) h gkc_272 q2 rfl dX12_toHold_13 ?_
  refine zr_mu h (fun μ3 eμ3 => ?_)
  have hf := zLt_s eμ3 hf
  refine zr_aload_n (pc := 14) h dX12_toHold_14 rfl rfl ?_
  refine zf_X12_27 (pc := 15) h gkc_267 dX12_toHold_15 ?_
  refine zr_bipush (pc := 18) (v := (70 : Int32)) h dX12_toHold_18 (by decide) ?_
  refine zr_iload_n (pc := 20) h dX12_toHold_20 rfl rfl ?_
  refine zr_iload_n (pc := 21) h dX12_toHold_21 rfl rfl ?_
  obtain ⟨x4, ex4, hf⟩ := zBd_s hf
  refine zm_X12_190 (pc := 22) h ⟨by decide, by decide⟩ (cX12_of_ok ex4) rfl (Nat.le_of_ble_eq_true rfl) dX12_toHold_22 rfl ?_
  refine zr_iadd (pc := 25) h dX12_toHold_25 ?_
  refine zr_iconst (pc := 26) (v := (0 : Int32)) h dX12_toHold_26 (by decide) ?_
  obtain ⟨q5, hf⟩ := zCk_s hf
  refine zr_iast (pc := 27) h gkc_272 q5 rfl dX12_toHold_27 ?_
  refine zr_mu h (fun μ6 eμ6 => ?_)
  have hf := zLt_s eμ6 hf
  refine zr_aload_n (pc := 28) h dX12_toHold_28 rfl rfl ?_
  refine zf_X12_27 (pc := 29) h gkc_267 dX12_toHold_29 ?_
  refine zr_bipush (pc := 32) (v := (100 : Int32)) h dX12_toHold_32 (by decide) ?_
  refine zr_iload_n (pc := 34) h dX12_toHold_34 rfl rfl ?_
  refine zr_iload_n (pc := 35) h dX12_toHold_35 rfl rfl ?_
  obtain ⟨x7, ex7, hf⟩ := zBd_s hf
  refine zm_X12_190 (pc := 36) h ⟨by decide, by decide⟩ (cX12_of_ok ex7) rfl (Nat.le_of_ble_eq_true rfl) dX12_toHold_36 rfl ?_
  refine zr_iadd (pc := 39) h dX12_toHold_39 ?_
  refine zr_iconst (pc := 40) (v := (0 : Int32)) h dX12_toHold_40 (by decide) ?_
  obtain ⟨q8, hf⟩ := zCk_s hf
  refine zr_iast (pc := 41) h gkc_272 q8 rfl dX12_toHold_41 ?_
  refine zr_mu h (fun μ9 eμ9 => ?_)
  have hf := zLt_s eμ9 hf
  refine zr_aload_n (pc := 42) h dX12_toHold_42 rfl rfl ?_
  refine zf_X12_27 (pc := 43) h gkc_267 dX12_toHold_43 ?_
  refine zr_sipush (pc := 46) (v := (140 : Int32)) h dX12_toHold_46 (by decide) ?_
  refine zr_iload_n (pc := 49) h dX12_toHold_49 rfl rfl ?_
  refine zr_iadd (pc := 50) h dX12_toHold_50 ?_
  refine zr_topi h (fun x10 ex10 => ?_)
  have hf := zLt_s ex10 hf
  refine zr_dup2 (pc := 51) h dX12_toHold_51 rfl rfl ?_
  obtain ⟨q11, hf⟩ := zCk_s hf
  refine zr_iald (pc := 52) h gkc_272 q11 rfl dX12_toHold_52 ?_
  refine zr_iconst (pc := 53) (v := (1 : Int32)) h dX12_toHold_53 (by decide) ?_
  refine zr_iadd (pc := 54) h dX12_toHold_54 ?_
  obtain ⟨q12, hf⟩ := zCk_s hf
  refine zr_iast (pc := 55) h gkc_272 q12 rfl dX12_toHold_55 ?_
  refine zr_mu h (fun μ13 eμ13 => ?_)
  have hf := zLt_s eμ13 hf
  refine zr_aload_n (pc := 56) h dX12_toHold_56 rfl rfl ?_
  refine zr_dup (pc := 57) h dX12_toHold_57 rfl ?_
  refine zf_X12_280 (pc := 58) h gkc_267 dX12_toHold_58 ?_
  refine zr_iconst (pc := 61) (v := (1 : Int32)) h dX12_toHold_61 (by decide) ?_
  refine zr_iadd (pc := 62) h dX12_toHold_62 ?_
  refine zp_X12_280 (pc := 63) h gkc_267 dX12_toHold_63 ?_
  refine zr_mu h (fun μ14 eμ14 => ?_)
  have hf := zLt_s eμ14 hf
  refine zr_aload_n (pc := 66) h dX12_toHold_66 rfl rfl ?_
  refine zr_iload_n (pc := 67) h dX12_toHold_67 rfl rfl ?_
  refine zr_iload_n (pc := 68) h dX12_toHold_68 rfl rfl ?_
  refine zr_iconst (pc := 69) (v := (0 : Int32)) h dX12_toHold_69 (by decide) ?_
  obtain ⟨μ15, eμ15, hf⟩ := zBd_s hf
  refine zm_X12_283 (pc := 70) h gkc_267 ⟨by decide, by decide⟩ (cX12_logs_ok eμ15) rfl (Nat.le_of_ble_eq_true rfl) dX12_toHold_70 rfl ?_
  exact zr_vret (pc := 73) h dX12_toHold_73 rfl (zRv hf)

set_option maxRecDepth 100000 in
set_option maxHeartbeats 4000000 in
theorem cX12_skewOf_ok {l : Launch} {g : gG} {a1 : Int32} {a2 : Int32} {μ : gM} {r : Int32} (hf : fX12_skewOf a1 a2 μ = some r) : gMet l g yX12_skewOf cX12_skewOf 3 (some .int) 2 45 [.ref (g.1 + 267), .int a1, .int a2] μ (some (.int r)) μ := by
  refine gMet_of (gIni [.ref (g.1 + 267), .int a1, .int a2] ++ List.replicate 0 none) (by decide) (gIni_ok _ _) (Nat.le_of_ble_eq_true rfl) (fun K h => ?_)
  show K 0 [some (.ref (g.1 + 267)), some (.int a1), some (.int a2)] [] μ
  unfold fX12_skewOf at hf
  refine zr_aload_n (pc := 0) h dX12_skewOf_0 rfl rfl ?_
  refine zf_X12_17 (pc := 1) h gkc_267 dX12_skewOf_1 ?_
  refine zr_bipush (pc := 4) (v := (28 : Int32)) h dX12_skewOf_4 (by decide) ?_
  refine zr_iload_n (pc := 6) h dX12_skewOf_6 rfl rfl ?_
  refine zr_iadd (pc := 7) h dX12_skewOf_7 ?_
  obtain ⟨q1, hf⟩ := zCk_s hf
  refine zr_iald (pc := 8) h gkc_269 q1 rfl dX12_skewOf_8 ?_
  refine zr_sipush (pc := 9) (v := (256 : Int32)) h dX12_skewOf_9 (by decide) ?_
  refine zr_aload_n (pc := 12) h dX12_skewOf_12 rfl rfl ?_
  refine zr_iload_n (pc := 13) h dX12_skewOf_13 rfl rfl ?_
  refine zr_iload_n (pc := 14) h dX12_skewOf_14 rfl rfl ?_
  obtain ⟨x2, ex2, hf⟩ := zBd_s hf
  refine zm_X12_268 (pc := 15) h gkc_267 ⟨by decide, by decide⟩ (cX12_wordOf_ok ex2) rfl (Nat.le_of_ble_eq_true rfl) dX12_skewOf_15 rfl ?_
  refine zr_isub (pc := 18) h dX12_skewOf_18 ?_
  refine zr_imul (pc := 19) h dX12_skewOf_19 ?_
  refine zr_sipush (pc := 20) (v := (256 : Int32)) h dX12_skewOf_20 (by decide) ?_
  refine zr_idiv (pc := 23) h dX12_skewOf_23 (by decide) ?_
  exact zr_iret (pc := 24) h dX12_skewOf_24 (zRi hf) rfl

set_option maxRecDepth 100000 in
set_option maxHeartbeats 4000000 in
theorem cX12_patienceOf_ok {l : Launch} {g : gG} {a1 : Int32} {a2 : Int32} {μ : gM} {r : Int32} (hf : fX12_patienceOf a1 a2 μ = some r) : gMet l g yX12_patienceOf cX12_patienceOf 3 (some .int) 3 67 [.ref (g.1 + 267), .int a1, .int a2] μ (some (.int r)) μ := by
  refine gMet_of (gIni [.ref (g.1 + 267), .int a1, .int a2] ++ List.replicate 0 none) (by decide) (gIni_ok _ _) (Nat.le_of_ble_eq_true rfl) (fun K h => ?_)
  show K 0 [some (.ref (g.1 + 267)), some (.int a1), some (.int a2)] [] μ
  unfold fX12_patienceOf at hf
  refine zr_iconst (pc := 0) (v := (3 : Int32)) h dX12_patienceOf_0 (by decide) ?_
  refine zr_aload_n (pc := 1) h dX12_patienceOf_1 rfl rfl ?_
  refine zf_X12_17 (pc := 2) h gkc_267 dX12_patienceOf_2 ?_
  refine zr_bipush (pc := 5) (v := (28 : Int32)) h dX12_patienceOf_5 (by decide) ?_
  refine zr_iload_n (pc := 7) h dX12_patienceOf_7 rfl rfl ?_
  refine zr_iadd (pc := 8) h dX12_patienceOf_8 ?_
  obtain ⟨q1, hf⟩ := zCk_s hf
  refine zr_iald (pc := 9) h gkc_269 q1 rfl dX12_patienceOf_9 ?_
  refine zr_imul (pc := 10) h dX12_patienceOf_10 ?_
  refine zr_aload_n (pc := 11) h dX12_patienceOf_11 rfl rfl ?_
  refine zr_iload_n (pc := 12) h dX12_patienceOf_12 rfl rfl ?_
  refine zr_iload_n (pc := 13) h dX12_patienceOf_13 rfl rfl ?_
  obtain ⟨x2, ex2, hf⟩ := zBd_s hf
  refine zm_X12_271 (pc := 14) h gkc_267 ⟨by decide, by decide⟩ (cX12_skewOf_ok ex2) rfl (Nat.le_of_ble_eq_true rfl) dX12_patienceOf_14 rfl ?_
  refine zr_iadd (pc := 17) h dX12_patienceOf_17 ?_
  exact zr_iret (pc := 18) h dX12_patienceOf_18 (zRi hf) rfl

set_option maxRecDepth 100000 in
set_option maxHeartbeats 4000000 in
theorem cX12_toWait_ok {l : Launch} {g : gG} {a1 : Int32} {a2 : Int32} {μ : gM} {ν : gM} (hf : fX12_toWait a1 a2 μ = some ν) : gMet l g yX12_toWait cX12_toWait 3 none 4 89 [.ref (g.1 + 267), .int a1, .int a2] μ none ν := by
  refine gMet_of (gIni [.ref (g.1 + 267), .int a1, .int a2] ++ List.replicate 0 none) (by decide) (gIni_ok _ _) (Nat.le_of_ble_eq_true rfl) (fun K h => ?_)
  show K 0 [some (.ref (g.1 + 267)), some (.int a1), some (.int a2)] [] μ
  unfold fX12_toWait at hf
  refine zr_aload_n (pc := 0) h dX12_toWait_0 rfl rfl ?_
  refine zf_X12_27 (pc := 1) h gkc_267 dX12_toWait_1 ?_
  refine zr_bipush (pc := 4) (v := (40 : Int32)) h dX12_toWait_4 (by decide) ?_
  refine zr_iload_n (pc := 6) h dX12_toWait_6 rfl rfl ?_
  refine zr_iload_n (pc := 7) h dX12_toWait_7 rfl rfl ?_
  obtain ⟨x1, ex1, hf⟩ := zBd_s hf
  refine zm_X12_190 (pc := 8) h ⟨by decide, by decide⟩ (cX12_of_ok ex1) rfl (Nat.le_of_ble_eq_true rfl) dX12_toWait_8 rfl ?_
  refine zr_iadd (pc := 11) h dX12_toWait_11 ?_
  refine zr_iconst (pc := 12) (v := (1 : Int32)) h dX12_toWait_12 (by decide) ?_
  obtain ⟨q2, hf⟩ := zCk_s hf
  refine zr_iast (pc := 13) h gkc_272 q2 rfl dX12_toWait_13 ?_
  refine zr_mu h (fun μ3 eμ3 => ?_)
  have hf := zLt_s eμ3 hf
  refine zr_aload_n (pc := 14) h dX12_toWait_14 rfl rfl ?_
  refine zf_X12_27 (pc := 15) h gkc_267 dX12_toWait_15 ?_
  refine zr_bipush (pc := 18) (v := (70 : Int32)) h dX12_toWait_18 (by decide) ?_
  refine zr_iload_n (pc := 20) h dX12_toWait_20 rfl rfl ?_
  refine zr_iload_n (pc := 21) h dX12_toWait_21 rfl rfl ?_
  obtain ⟨x4, ex4, hf⟩ := zBd_s hf
  refine zm_X12_190 (pc := 22) h ⟨by decide, by decide⟩ (cX12_of_ok ex4) rfl (Nat.le_of_ble_eq_true rfl) dX12_toWait_22 rfl ?_
  refine zr_iadd (pc := 25) h dX12_toWait_25 ?_
  refine zr_aload_n (pc := 26) h dX12_toWait_26 rfl rfl ?_
  refine zr_iload_n (pc := 27) h dX12_toWait_27 rfl rfl ?_
  refine zr_iload_n (pc := 28) h dX12_toWait_28 rfl rfl ?_
  obtain ⟨x5, ex5, hf⟩ := zBd_s hf
  refine zm_X12_277 (pc := 29) h gkc_267 ⟨by decide, by decide⟩ (cX12_patienceOf_ok ex5) rfl (Nat.le_of_ble_eq_true rfl) dX12_toWait_29 rfl ?_
  obtain ⟨q6, hf⟩ := zCk_s hf
  refine zr_iast (pc := 32) h gkc_272 q6 rfl dX12_toWait_32 ?_
  refine zr_mu h (fun μ7 eμ7 => ?_)
  have hf := zLt_s eμ7 hf
  refine zr_aload_n (pc := 33) h dX12_toWait_33 rfl rfl ?_
  refine zf_X12_27 (pc := 34) h gkc_267 dX12_toWait_34 ?_
  refine zr_bipush (pc := 37) (v := (100 : Int32)) h dX12_toWait_37 (by decide) ?_
  refine zr_iload_n (pc := 39) h dX12_toWait_39 rfl rfl ?_
  refine zr_iload_n (pc := 40) h dX12_toWait_40 rfl rfl ?_
  obtain ⟨x8, ex8, hf⟩ := zBd_s hf
  refine zm_X12_190 (pc := 41) h ⟨by decide, by decide⟩ (cX12_of_ok ex8) rfl (Nat.le_of_ble_eq_true rfl) dX12_toWait_41 rfl ?_
  refine zr_iadd (pc := 44) h dX12_toWait_44 ?_
  refine zr_iconst (pc := 45) (v := (0 : Int32)) h dX12_toWait_45 (by decide) ?_
  obtain ⟨q9, hf⟩ := zCk_s hf
  refine zr_iast (pc := 46) h gkc_272 q9 rfl dX12_toWait_46 ?_
  refine zr_mu h (fun μ10 eμ10 => ?_)
  have hf := zLt_s eμ10 hf
  exact zr_vret (pc := 47) h dX12_toWait_47 rfl (zRv hf)

set_option maxRecDepth 100000 in
set_option maxHeartbeats 4000000 in
theorem fX12_starts_l88_ok {l : Launch} {g : gG} {k78 : Int32 → gM → Option gM} {ν : gM} {K : gKt} (h : gR l g cX12_starts RX12 3 none (gRm 5 111) none ν K) (hk78 : ∀ (y1 : Int32) (ν1 : gM), k78 y1 ν1 = some ν → K 78 [some (.ref (g.1 + 267)), some (.int y1), none] [] ν1) : ∀ (n : Nat) (y1 : Int32) (y2 : Int32) (μ : gM), fX12_starts_l88 k78 n y1 y2 μ = some ν → K 88 [some (.ref (g.1 + 267)), some (.int y1), some (.int y2)] [] μ := by
  intro n
  induction n with
  | zero =>
    intro y1 y2 μ hf
    cases (show (none : Option gM) = some _ from hf)
  | succ n ih =>
    intro y1 y2 μ hf
    unfold fX12_starts_l88 at hf
    refine zr_iload_n (pc := 88) h dX12_starts_88 rfl rfl ?_
    refine zr_aload_n (pc := 89) h dX12_starts_89 rfl rfl ?_
    obtain ⟨x5, ex5, hf⟩ := zBd_s hf
    refine zm_X12_256 (pc := 90) h gkc_267 ⟨by decide, by decide⟩ (cX12_gates_ok ex5) rfl (Nat.le_of_ble_eq_true rfl) dX12_starts_90 rfl ?_
    have hf := zIf_s hf
    refine zr_icmp_ge (pc := 93) (tgt := 141) h dX12_starts_93 rfl (fun b16 => ?_) (fun b16 => ?_)
    · have hf := hf.1 b16
      refine zr_iincx (pc := 141) h dX12_starts_141 rfl (by decide) rfl (c := (1 : Int32)) (by decide) (fun x6 ex6 => ?_)
      have hf := zLt_s ex6 hf
      refine zr_goto (pc := 144) (tgt := 78) h dX12_starts_144 rfl ?_
      exact zr_weak h [true, true, false] (hk78 _ _ hf)
    · have hf := hf.2 b16
      refine zr_aload_n (pc := 96) h dX12_starts_96 rfl rfl ?_
      refine zr_iload_n (pc := 97) h dX12_starts_97 rfl rfl ?_
      refine zr_iload_n (pc := 98) h dX12_starts_98 rfl rfl ?_
      obtain ⟨x7, ex7, hf⟩ := zBd_s hf
      refine zm_X12_287 (pc := 99) h gkc_267 ⟨by decide, by decide⟩ (cX12_isMember_ok ex7) rfl (Nat.le_of_ble_eq_true rfl) dX12_starts_99 rfl ?_
      have hf := zIf_s hf
      refine zr_if_ne (pc := 102) (tgt := 108) h dX12_starts_102 rfl (fun b15 => ?_) (fun b15 => ?_)
      · have hf := hf.2 b15
        refine zr_aload_n (pc := 108) h dX12_starts_108 rfl rfl ?_
        refine zr_iload_n (pc := 109) h dX12_starts_109 rfl rfl ?_
        refine zr_iload_n (pc := 110) h dX12_starts_110 rfl rfl ?_
        obtain ⟨x8, ex8, hf⟩ := zBd_s hf
        refine zm_X12_268 (pc := 111) h gkc_267 ⟨by decide, by decide⟩ (cX12_wordOf_ok ex8) rfl (Nat.le_of_ble_eq_true rfl) dX12_starts_111 rfl ?_
        refine zr_sipush (pc := 114) (v := (255 : Int32)) h dX12_starts_114 (by decide) ?_
        have hf := zIf_s hf
        refine zr_icmp_ne (pc := 117) (tgt := 129) h dX12_starts_117 rfl (fun b13 => ?_) (fun b13 => ?_)
        · have hf := hf.2 b13
          refine zr_aload_n (pc := 129) h dX12_starts_129 rfl rfl ?_
          refine zr_iload_n (pc := 130) h dX12_starts_130 rfl rfl ?_
          refine zr_iload_n (pc := 131) h dX12_starts_131 rfl rfl ?_
          obtain ⟨μ9, eμ9, hf⟩ := zBd_s hf
          refine zm_X12_293 (pc := 132) h gkc_267 ⟨by decide, by decide⟩ (cX12_toWait_ok eμ9) rfl (Nat.le_of_ble_eq_true rfl) dX12_starts_132 rfl ?_
          refine zr_iincx (pc := 135) h dX12_starts_135 rfl (by decide) rfl (c := (1 : Int32)) (by decide) (fun x10 ex10 => ?_)
          have hf := zLt_s ex10 hf
          refine zr_goto (pc := 138) (tgt := 88) h dX12_starts_138 rfl ?_
          exact zr_weak h [true, true, true] (ih _ _ _ hf)
        · have hf := hf.1 b13
          refine zr_aload_n (pc := 120) h dX12_starts_120 rfl rfl ?_
          refine zr_iload_n (pc := 121) h dX12_starts_121 rfl rfl ?_
          refine zr_iload_n (pc := 122) h dX12_starts_122 rfl rfl ?_
          obtain ⟨μ11, eμ11, hf⟩ := zBd_s hf
          refine zm_X12_290 (pc := 123) h gkc_267 ⟨by decide, by decide⟩ (cX12_toHold_ok eμ11) rfl (Nat.le_of_ble_eq_true rfl) dX12_starts_123 rfl ?_
          refine zr_goto (pc := 126) (tgt := 135) h dX12_starts_126 rfl ?_
          refine zr_iincx (pc := 135) h dX12_starts_135 rfl (by decide) rfl (c := (1 : Int32)) (by decide) (fun x12 ex12 => ?_)
          have hf := zLt_s ex12 hf
          refine zr_goto (pc := 138) (tgt := 88) h dX12_starts_138 rfl ?_
          exact zr_weak h [true, true, true] (ih _ _ _ hf)
      · have hf := hf.1 b15
        refine zr_goto (pc := 105) (tgt := 135) h dX12_starts_105 rfl ?_
        refine zr_iincx (pc := 135) h dX12_starts_135 rfl (by decide) rfl (c := (1 : Int32)) (by decide) (fun x14 ex14 => ?_)
        have hf := zLt_s ex14 hf
        refine zr_goto (pc := 138) (tgt := 88) h dX12_starts_138 rfl ?_
        exact zr_weak h [true, true, true] (ih _ _ _ hf)

set_option maxRecDepth 100000 in
set_option maxHeartbeats 4000000 in
theorem fX12_starts_l78_ok {l : Launch} {g : gG} {ν : gM} {K : gKt} (h : gR l g cX12_starts RX12 3 none (gRm 5 111) none ν K) : ∀ (n : Nat) (y1 : Int32) (μ : gM), fX12_starts_l78 n y1 μ = some ν → K 78 [some (.ref (g.1 + 267)), some (.int y1), none] [] μ := by
  intro n
  induction n with
  | zero =>
    intro y1 μ hf
    cases (show (none : Option gM) = some _ from hf)
  | succ n ih =>
    intro y1 μ hf
    unfold fX12_starts_l78 at hf
    refine zr_iload_n (pc := 78) h dX12_starts_78 rfl rfl ?_
    refine zr_aload_n (pc := 79) h dX12_starts_79 rfl rfl ?_
    obtain ⟨x4, ex4, hf⟩ := zBd_s hf
    refine zm_X12_253 (pc := 80) h gkc_267 ⟨by decide, by decide⟩ (cX12_groups_ok ex4) rfl (Nat.le_of_ble_eq_true rfl) dX12_starts_80 rfl ?_
    have hf := zIf_s hf
    refine zr_icmp_ge (pc := 83) (tgt := 147) h dX12_starts_83 rfl (fun b17 => ?_) (fun b17 => ?_)
    · have hf := hf.1 b17
      exact zr_vret (pc := 147) h dX12_starts_147 rfl (zRv hf)
    · have hf := hf.2 b17
      refine zr_iconst (pc := 86) (v := (0 : Int32)) h dX12_starts_86 (by decide) ?_
      refine zr_istore_n (pc := 87) h dX12_starts_87 rfl (by decide) rfl ?_
      exact zr_weak h [true, true, true] (fX12_starts_l88_ok h ih 100000 _ _ _ hf)

set_option maxRecDepth 100000 in
set_option maxHeartbeats 4000000 in
theorem fX12_starts_l32_ok {l : Launch} {g : gG} {ν : gM} {K : gKt} (h : gR l g cX12_starts RX12 3 none (gRm 5 111) none ν K) : ∀ (n : Nat) (y1 : Int32) (μ : gM), fX12_starts_l32 n y1 μ = some ν → K 32 [some (.ref (g.1 + 267)), some (.int y1), none] [] μ := by
  intro n
  induction n with
  | zero =>
    intro y1 μ hf
    cases (show (none : Option gM) = some _ from hf)
  | succ n ih =>
    intro y1 μ hf
    unfold fX12_starts_l32 at hf
    refine zr_iload_n (pc := 32) h dX12_starts_32 rfl rfl ?_
    refine zr_bipush (pc := 33) (v := (30 : Int32)) h dX12_starts_33 (by decide) ?_
    have hf := zIf_s hf
    refine zr_icmp_ge (pc := 35) (tgt := 62) h dX12_starts_35 rfl (fun b22 => ?_) (fun b22 => ?_)
    · have hf := hf.1 b22
      refine zr_aload_n (pc := 62) h dX12_starts_62 rfl rfl ?_
      refine zf_X12_27 (pc := 63) h gkc_267 dX12_starts_63 ?_
      refine zr_iconst (pc := 66) (v := (1 : Int32)) h dX12_starts_66 (by decide) ?_
      refine zr_iconst (pc := 67) (v := (1 : Int32)) h dX12_starts_67 (by decide) ?_
      refine zr_aload_n (pc := 68) h dX12_starts_68 rfl rfl ?_
      obtain ⟨x2, ex2, hf⟩ := zBd_s hf
      refine zm_X12_256 (pc := 69) h gkc_267 ⟨by decide, by decide⟩ (cX12_gates_ok ex2) rfl (Nat.le_of_ble_eq_true rfl) dX12_starts_69 rfl ?_
      refine zr_ishl (pc := 72) h dX12_starts_72 ?_
      refine zr_iconst (pc := 73) (v := (1 : Int32)) h dX12_starts_73 (by decide) ?_
      refine zr_isub (pc := 74) h dX12_starts_74 ?_
      refine zr_iast (pc := 75) (q := 1) h gkc_272 rfl (by decide) dX12_starts_75 ?_
      refine zr_mu h (fun μ3 eμ3 => ?_)
      have hf := zLt_s eμ3 hf
      refine zr_iconst (pc := 76) (v := (0 : Int32)) h dX12_starts_76 (by decide) ?_
      refine zr_istore_n (pc := 77) h dX12_starts_77 rfl (by decide) rfl ?_
      exact zr_weak h [true, true, false] (fX12_starts_l78_ok h 100000 _ _ hf)
    · have hf := hf.2 b22
      refine zr_aload_n (pc := 38) h dX12_starts_38 rfl rfl ?_
      refine zf_X12_27 (pc := 39) h gkc_267 dX12_starts_39 ?_
      refine zr_bipush (pc := 42) (v := (10 : Int32)) h dX12_starts_42 (by decide) ?_
      refine zr_iload_n (pc := 44) h dX12_starts_44 rfl rfl ?_
      refine zr_iadd (pc := 45) h dX12_starts_45 ?_
      refine zr_aload_n (pc := 46) h dX12_starts_46 rfl rfl ?_
      refine zf_X12_17 (pc := 47) h gkc_267 dX12_starts_47 ?_
      refine zr_bipush (pc := 50) (v := (53 : Int32)) h dX12_starts_50 (by decide) ?_
      refine zr_iload_n (pc := 52) h dX12_starts_52 rfl rfl ?_
      refine zr_iadd (pc := 53) h dX12_starts_53 ?_
      obtain ⟨q18, hf⟩ := zCk_s hf
      refine zr_iald (pc := 54) h gkc_269 q18 rfl dX12_starts_54 ?_
      obtain ⟨q19, hf⟩ := zCk_s hf
      refine zr_iast (pc := 55) h gkc_272 q19 rfl dX12_starts_55 ?_
      refine zr_mu h (fun μ20 eμ20 => ?_)
      have hf := zLt_s eμ20 hf
      refine zr_iincx (pc := 56) h dX12_starts_56 rfl (by decide) rfl (c := (1 : Int32)) (by decide) (fun x21 ex21 => ?_)
      have hf := zLt_s ex21 hf
      refine zr_goto (pc := 59) (tgt := 32) h dX12_starts_59 rfl ?_
      exact zr_weak h [true, true, false] (ih _ _ hf)

set_option maxRecDepth 100000 in
set_option maxHeartbeats 4000000 in
theorem fX12_starts_l2_ok {l : Launch} {g : gG} {ν : gM} {K : gKt} (h : gR l g cX12_starts RX12 3 none (gRm 5 111) none ν K) : ∀ (n : Nat) (y1 : Int32) (μ : gM), fX12_starts_l2 n y1 μ = some ν → K 2 [some (.ref (g.1 + 267)), some (.int y1), none] [] μ := by
  intro n
  induction n with
  | zero =>
    intro y1 μ hf
    cases (show (none : Option gM) = some _ from hf)
  | succ n ih =>
    intro y1 μ hf
    unfold fX12_starts_l2 at hf
    refine zr_iload_n (pc := 2) h dX12_starts_2 rfl rfl ?_
    refine zr_sipush (pc := 3) (v := (490 : Int32)) h dX12_starts_3 (by decide) ?_
    have hf := zIf_s hf
    refine zr_icmp_ge (pc := 6) (tgt := 22) h dX12_starts_6 rfl (fun b26 => ?_) (fun b26 => ?_)
    · have hf := hf.1 b26
      refine zr_aload_n (pc := 22) h dX12_starts_22 rfl rfl ?_
      refine zf_X12_27 (pc := 23) h gkc_267 dX12_starts_23 ?_
      refine zr_bipush (pc := 26) (v := (9 : Int32)) h dX12_starts_26 (by decide) ?_
      refine zr_iconst (pc := 28) (v := (1 : Int32)) h dX12_starts_28 (by decide) ?_
      refine zr_iast (pc := 29) (q := 9) h gkc_272 rfl (by decide) dX12_starts_29 ?_
      refine zr_mu h (fun μ1 eμ1 => ?_)
      have hf := zLt_s eμ1 hf
      refine zr_iconst (pc := 30) (v := (0 : Int32)) h dX12_starts_30 (by decide) ?_
      refine zr_istore_n (pc := 31) h dX12_starts_31 rfl (by decide) rfl ?_
      exact zr_weak h [true, true, false] (fX12_starts_l32_ok h 100000 _ _ hf)
    · have hf := hf.2 b26
      refine zr_aload_n (pc := 9) h dX12_starts_9 rfl rfl ?_
      refine zf_X12_27 (pc := 10) h gkc_267 dX12_starts_10 ?_
      refine zr_iload_n (pc := 13) h dX12_starts_13 rfl rfl ?_
      refine zr_iconst (pc := 14) (v := (0 : Int32)) h dX12_starts_14 (by decide) ?_
      obtain ⟨q23, hf⟩ := zCk_s hf
      refine zr_iast (pc := 15) h gkc_272 q23 rfl dX12_starts_15 ?_
      refine zr_mu h (fun μ24 eμ24 => ?_)
      have hf := zLt_s eμ24 hf
      refine zr_iincx (pc := 16) h dX12_starts_16 rfl (by decide) rfl (c := (1 : Int32)) (by decide) (fun x25 ex25 => ?_)
      have hf := zLt_s ex25 hf
      refine zr_goto (pc := 19) (tgt := 2) h dX12_starts_19 rfl ?_
      exact zr_weak h [true, true, false] (ih _ _ hf)

set_option maxRecDepth 100000 in
set_option maxHeartbeats 4000000 in
theorem cX12_starts_ok {l : Launch} {g : gG} {μ : gM} {ν : gM} (hf : fX12_starts μ = some ν) : gMet l g yX12_starts cX12_starts 3 none 5 111 [.ref (g.1 + 267)] μ none ν := by
  refine gMet_of (gIni [.ref (g.1 + 267)] ++ List.replicate 2 none) (by decide) (gIni_ok _ _) (Nat.le_of_ble_eq_true rfl) (fun K h => ?_)
  show K 0 [some (.ref (g.1 + 267)), none, none] [] μ
  unfold fX12_starts at hf
  refine zr_iconst (pc := 0) (v := (0 : Int32)) h dX12_starts_0 (by decide) ?_
  refine zr_istore_n (pc := 1) h dX12_starts_1 rfl (by decide) rfl ?_
  exact zr_weak h [true, true, false] (fX12_starts_l2_ok h 100000 _ _ hf)

set_option maxRecDepth 100000 in
set_option maxHeartbeats 4000000 in
theorem fX12_net_l103_ok {l : Launch} {g : gG} {r : Int32} {ν : gM} {K : gKt} (h : gR l g cX12_net RX12 2 (some .int) (gRm 8 176) (some (.int r)) ν K) : ∀ (n : Nat) (y1 : Int32) (μ : gM), fX12_net_l103 n y1 μ = some (r, ν) → K 103 [some (.ref (g.1 + 267)), some (.int y1)] [] μ := by
  intro n
  induction n with
  | zero =>
    intro y1 μ hf
    cases (show (none : Option (Int32 × gM)) = some _ from hf)
  | succ n ih =>
    intro y1 μ hf
    unfold fX12_net_l103 at hf
    refine zr_iload_n (pc := 103) h dX12_net_103 rfl rfl ?_
    refine zr_sipush (pc := 104) (v := (209 : Int32)) h dX12_net_104 (by decide) ?_
    have hf := zIf_s hf
    refine zr_icmp_ge (pc := 107) (tgt := 128) h dX12_net_107 rfl (fun b15 => ?_) (fun b15 => ?_)
    · have hf := hf.1 b15
      refine zr_aload_n (pc := 128) h dX12_net_128 rfl rfl ?_
      refine zr_iconst (pc := 129) (v := (1 : Int32)) h dX12_net_129 (by decide) ?_
      refine zp_X12_224 (pc := 130) h gkc_267 rfl rfl dX12_net_130 ?_
      refine zr_mu h (fun μ6 eμ6 => ?_)
      have hf := zLt_s eμ6 hf
      refine zr_aload_n (pc := 133) h dX12_net_133 rfl rfl ?_
      refine zr_iconst (pc := 134) (v := (0 : Int32)) h dX12_net_134 (by decide) ?_
      refine zp_X12_228 (pc := 135) h gkc_267 dX12_net_135 ?_
      refine zr_mu h (fun μ7 eμ7 => ?_)
      have hf := zLt_s eμ7 hf
      refine zr_aload_n (pc := 138) h dX12_net_138 rfl rfl ?_
      refine zf_X12_33 (pc := 139) h gkc_267 dX12_net_139 ?_
      refine zr_iconst (pc := 142) (v := (0 : Int32)) h dX12_net_142 (by decide) ?_
      refine zr_iconst (pc := 143) (v := (0 : Int32)) h dX12_net_143 (by decide) ?_
      refine zr_zast (pc := 144) (q := 0) (x' := (0 : Int32)) h gkc_274 rfl (by decide) (by decide) dX12_net_144 ?_
      refine zr_mu h (fun μ8 eμ8 => ?_)
      have hf := zLt_s eμ8 hf
      refine zr_aload_n (pc := 145) h dX12_net_145 rfl rfl ?_
      refine zf_X12_33 (pc := 146) h gkc_267 dX12_net_146 ?_
      refine zr_iconst (pc := 149) (v := (1 : Int32)) h dX12_net_149 (by decide) ?_
      refine zr_iconst (pc := 150) (v := (0 : Int32)) h dX12_net_150 (by decide) ?_
      refine zr_zast (pc := 151) (q := 1) (x' := (0 : Int32)) h gkc_274 rfl (by decide) (by decide) dX12_net_151 ?_
      refine zr_mu h (fun μ9 eμ9 => ?_)
      have hf := zLt_s eμ9 hf
      refine zr_aload_n (pc := 152) h dX12_net_152 rfl rfl ?_
      obtain ⟨μ10, eμ10, hf⟩ := zBd_s hf
      refine zm_X12_231 (pc := 153) h gkc_267 ⟨by decide, by decide⟩ (cX12_starts_ok eμ10) rfl (Nat.le_of_ble_eq_true rfl) dX12_net_153 rfl ?_
      refine zr_aload_n (pc := 156) h dX12_net_156 rfl rfl ?_
      refine zf_X12_17 (pc := 157) h gkc_267 dX12_net_157 ?_
      refine zr_iconst (pc := 160) (v := (2 : Int32)) h dX12_net_160 (by decide) ?_
      refine zr_iald (pc := 161) (q := 2) h gkc_269 rfl (by decide) dX12_net_161 ?_
      exact zr_iret (pc := 162) h dX12_net_162 (zRp hf).1 (zRp hf).2
    · have hf := hf.2 b15
      refine zr_aload_n (pc := 110) h dX12_net_110 rfl rfl ?_
      refine zf_X12_17 (pc := 111) h gkc_267 dX12_net_111 ?_
      refine zr_iload_n (pc := 114) h dX12_net_114 rfl rfl ?_
      refine zr_aload_n (pc := 115) h dX12_net_115 rfl rfl ?_
      refine zf_X12_21 (pc := 116) h gkc_267 dX12_net_116 ?_
      refine zr_iload_n (pc := 119) h dX12_net_119 rfl rfl ?_
      obtain ⟨q11, hf⟩ := zCk_s hf
      refine zr_iald (pc := 120) h gkc_270 q11 rfl dX12_net_120 ?_
      obtain ⟨q12, hf⟩ := zCk_s hf
      refine zr_iast (pc := 121) h gkc_269 q12 rfl dX12_net_121 ?_
      refine zr_mu h (fun μ13 eμ13 => ?_)
      have hf := zLt_s eμ13 hf
      refine zr_iincx (pc := 122) h dX12_net_122 rfl (by decide) rfl (c := (1 : Int32)) (by decide) (fun x14 ex14 => ?_)
      have hf := zLt_s ex14 hf
      refine zr_goto (pc := 125) (tgt := 103) h dX12_net_125 rfl ?_
      exact zr_weak h [true, true] (ih _ _ hf)

set_option maxRecDepth 100000 in
set_option maxHeartbeats 4000000 in
theorem fX12_net_n92_ok {l : Launch} {g : gG} {r : Int32} {ν : gM} {K : gKt} (h : gR l g cX12_net RX12 2 (some .int) (gRm 8 176) (some (.int r)) ν K) {μ : gM} (hf : fX12_net_n92 μ = some (r, ν)) : K 92 [some (.ref (g.1 + 267)), none] [] μ := by
  unfold fX12_net_n92 at hf
  refine zr_aload_n (pc := 92) h dX12_net_92 rfl rfl ?_
  obtain ⟨x4, μ5, ex4, hf⟩ := zBp_s hf
  refine zm_X12_221 (pc := 93) h gkc_267 ⟨by decide, by decide⟩ (cX12_isRead_ok ex4) rfl (Nat.le_of_ble_eq_true rfl) dX12_net_93 rfl ?_
  have hf := zIf_s hf
  refine zr_if_ne (pc := 96) (tgt := 101) h dX12_net_96 rfl (fun b16 => ?_) (fun b16 => ?_)
  · have hf := hf.2 b16
    refine zr_iconst (pc := 101) (v := (0 : Int32)) h dX12_net_101 (by decide) ?_
    refine zr_istore_n (pc := 102) h dX12_net_102 rfl (by decide) rfl ?_
    exact zr_weak h [true, true] (fX12_net_l103_ok h 100000 _ _ hf)
  · have hf := hf.1 b16
    refine zr_iconst (pc := 99) (v := (-1 : Int32)) h dX12_net_99 (by decide) ?_
    exact zr_iret (pc := 100) h dX12_net_100 (zRp hf).1 (zRp hf).2

set_option maxRecDepth 100000 in
set_option maxHeartbeats 4000000 in
theorem fX12_net_n75_ok {l : Launch} {g : gG} {k33 : Int32 → gM → Option (Int32 × gM)} {r : Int32} {ν : gM} {K : gKt} (h : gR l g cX12_net RX12 2 (some .int) (gRm 8 176) (some (.int r)) ν K) (hk33 : ∀ (y1 : Int32) (ν1 : gM), k33 y1 ν1 = some (r, ν) → K 33 [some (.ref (g.1 + 267)), some (.int y1)] [] ν1) {y1 : Int32} {μ : gM} (hf : fX12_net_n75 k33 y1 μ = some (r, ν)) : K 75 [some (.ref (g.1 + 267)), some (.int y1)] [] μ := by
  unfold fX12_net_n75 at hf
  refine zr_aload_n (pc := 75) h dX12_net_75 rfl rfl ?_
  obtain ⟨x19, ex19, hf⟩ := zBd_s hf
  refine zm_X12_110 (pc := 76) h gkc_267 ⟨by decide, by decide⟩ (cX12_isFine_ok ex19) rfl (Nat.le_of_ble_eq_true rfl) dX12_net_76 rfl ?_
  have hf := zIf_s hf
  refine zr_if_eq (pc := 79) (tgt := 86) h dX12_net_79 rfl (fun b23 => ?_) (fun b23 => ?_)
  · have hf := hf.1 b23
    refine zr_iincx (pc := 86) h dX12_net_86 rfl (by decide) rfl (c := (1 : Int32)) (by decide) (fun x20 ex20 => ?_)
    have hf := zLt_s ex20 hf
    refine zr_goto (pc := 89) (tgt := 33) h dX12_net_89 rfl ?_
    exact zr_weak h [true, true] (hk33 _ _ hf)
  · have hf := hf.2 b23
    refine zr_aload_n (pc := 82) h dX12_net_82 rfl rfl ?_
    obtain ⟨μ21, eμ21, hf⟩ := zBd_s hf
    refine zm_X12_218 (pc := 83) h gkc_267 ⟨by decide, by decide⟩ (cX12_statement_ok eμ21) rfl (Nat.le_of_ble_eq_true rfl) dX12_net_83 rfl ?_
    refine zr_iincx (pc := 86) h dX12_net_86 rfl (by decide) rfl (c := (1 : Int32)) (by decide) (fun x22 ex22 => ?_)
    have hf := zLt_s ex22 hf
    refine zr_goto (pc := 89) (tgt := 33) h dX12_net_89 rfl ?_
    exact zr_weak h [true, true] (hk33 _ _ hf)

set_option maxRecDepth 100000 in
set_option maxHeartbeats 4000000 in
theorem fX12_net_n68_ok {l : Launch} {g : gG} {k33 : Int32 → gM → Option (Int32 × gM)} {r : Int32} {ν : gM} {K : gKt} (h : gR l g cX12_net RX12 2 (some .int) (gRm 8 176) (some (.int r)) ν K) (hk33 : ∀ (y1 : Int32) (ν1 : gM), k33 y1 ν1 = some (r, ν) → K 33 [some (.ref (g.1 + 267)), some (.int y1)] [] ν1) {y1 : Int32} {z0 : Int32} {μ : gM} (hf : fX12_net_n68 k33 y1 z0 μ = some (r, ν)) : K 68 [some (.ref (g.1 + 267)), some (.int y1)] [.int z0, .ref (g.1 + 267)] μ := by
  unfold fX12_net_n68 at hf
  refine zr_aload_n (pc := 68) h dX12_net_68 rfl rfl ?_
  obtain ⟨x26, μ27, ex26, hf⟩ := zBp_s hf
  refine zm_X12_102 (pc := 69) h gkc_267 ⟨by decide, by decide⟩ (cX12_next_ok ex26) rfl (Nat.le_of_ble_eq_true rfl) dX12_net_69 rfl ?_
  obtain ⟨μ28, eμ28, hf⟩ := zBd_s hf
  refine zm_X12_106 (pc := 72) h gkc_267 ⟨by decide, by decide⟩ (cX12_fail_ok eμ28) rfl (Nat.le_of_ble_eq_true rfl) dX12_net_72 rfl ?_
  exact zr_weak h [true, true] (fX12_net_n75_ok h hk33 hf)

set_option maxRecDepth 100000 in
set_option maxHeartbeats 4000000 in
theorem fX12_net_l33_ok {l : Launch} {g : gG} {r : Int32} {ν : gM} {K : gKt} (h : gR l g cX12_net RX12 2 (some .int) (gRm 8 176) (some (.int r)) ν K) : ∀ (n : Nat) (y1 : Int32) (μ : gM), fX12_net_l33 n y1 μ = some (r, ν) → K 33 [some (.ref (g.1 + 267)), some (.int y1)] [] μ := by
  intro n
  induction n with
  | zero =>
    intro y1 μ hf
    cases (show (none : Option (Int32 × gM)) = some _ from hf)
  | succ n ih =>
    intro y1 μ hf
    unfold fX12_net_l33 at hf
    refine zr_aload_n (pc := 33) h dX12_net_33 rfl rfl ?_
    obtain ⟨x3, ex3, hf⟩ := zBd_s hf
    refine zm_X12_110 (pc := 34) h gkc_267 ⟨by decide, by decide⟩ (cX12_isFine_ok ex3) rfl (Nat.le_of_ble_eq_true rfl) dX12_net_34 rfl ?_
    have hf := zIf_s hf
    refine zr_if_eq (pc := 37) (tgt := 92) h dX12_net_37 rfl (fun b32 => ?_) (fun b32 => ?_)
    · have hf := hf.1 b32
      exact zr_weak h [true, false] (fX12_net_n92_ok h hf)
    · have hf := hf.2 b32
      refine zr_aload_n (pc := 40) h dX12_net_40 rfl rfl ?_
      obtain ⟨x17, μ18, ex17, hf⟩ := zBp_s hf
      refine zm_X12_114 (pc := 41) h gkc_267 ⟨by decide, by decide⟩ (cX12_isOver_ok ex17) rfl (Nat.le_of_ble_eq_true rfl) dX12_net_41 rfl ?_
      have hf := zIf_s hf
      refine zr_if_ne (pc := 44) (tgt := 92) h dX12_net_44 rfl (fun b31 => ?_) (fun b31 => ?_)
      · have hf := hf.2 b31
        exact zr_weak h [true, false] (fX12_net_n92_ok h hf)
      · have hf := hf.1 b31
        refine zr_iload_n (pc := 47) h dX12_net_47 rfl rfl ?_
        refine zr_bipush (pc := 48) (v := (60 : Int32)) h dX12_net_48 (by decide) ?_
        have hf := zIf_s hf
        refine zr_icmp_ne (pc := 50) (tgt := 75) h dX12_net_50 rfl (fun b30 => ?_) (fun b30 => ?_)
        · have hf := hf.2 b30
          exact zr_weak h [true, true] (fX12_net_n75_ok h ih hf)
        · have hf := hf.1 b30
          refine zr_aload_n (pc := 53) h dX12_net_53 rfl rfl ?_
          refine zr_aload_n (pc := 54) h dX12_net_54 rfl rfl ?_
          obtain ⟨x24, μ25, ex24, hf⟩ := zBp_s hf
          refine zm_X12_197 (pc := 55) h gkc_267 ⟨by decide, by decide⟩ (cX12_statementHere_ok ex24) rfl (Nat.le_of_ble_eq_true rfl) dX12_net_55 rfl ?_
          refine zr_iconst (pc := 58) (v := (-1 : Int32)) h dX12_net_58 (by decide) ?_
          have hf := zIf_s hf
          refine zr_icmp_ne (pc := 59) (tgt := 66) h dX12_net_59 rfl (fun b29 => ?_) (fun b29 => ?_)
          · have hf := hf.2 b29
            refine zr_bipush (pc := 66) (v := (6 : Int32)) h dX12_net_66 (by decide) ?_
            exact zr_weak h [true, true] (fX12_net_n68_ok h ih hf)
          · have hf := hf.1 b29
            refine zr_iconst (pc := 62) (v := (1 : Int32)) h dX12_net_62 (by decide) ?_
            refine zr_goto (pc := 63) (tgt := 68) h dX12_net_63 rfl ?_
            exact zr_weak h [true, true] (fX12_net_n68_ok h ih hf)

set_option maxRecDepth 100000 in
set_option maxHeartbeats 4000000 in
theorem fX12_net_l11_ok {l : Launch} {g : gG} {r : Int32} {ν : gM} {K : gKt} (h : gR l g cX12_net RX12 2 (some .int) (gRm 8 176) (some (.int r)) ν K) : ∀ (n : Nat) (y1 : Int32) (μ : gM), fX12_net_l11 n y1 μ = some (r, ν) → K 11 [some (.ref (g.1 + 267)), some (.int y1)] [] μ := by
  intro n
  induction n with
  | zero =>
    intro y1 μ hf
    cases (show (none : Option (Int32 × gM)) = some _ from hf)
  | succ n ih =>
    intro y1 μ hf
    unfold fX12_net_l11 at hf
    refine zr_iload_n (pc := 11) h dX12_net_11 rfl rfl ?_
    refine zr_sipush (pc := 12) (v := (209 : Int32)) h dX12_net_12 (by decide) ?_
    have hf := zIf_s hf
    refine zr_icmp_ge (pc := 15) (tgt := 31) h dX12_net_15 rfl (fun b36 => ?_) (fun b36 => ?_)
    · have hf := hf.1 b36
      refine zr_iconst (pc := 31) (v := (0 : Int32)) h dX12_net_31 (by decide) ?_
      refine zr_istore_n (pc := 32) h dX12_net_32 rfl (by decide) rfl ?_
      exact zr_weak h [true, true] (fX12_net_l33_ok h 100000 _ _ hf)
    · have hf := hf.2 b36
      refine zr_aload_n (pc := 18) h dX12_net_18 rfl rfl ?_
      refine zf_X12_21 (pc := 19) h gkc_267 dX12_net_19 ?_
      refine zr_iload_n (pc := 22) h dX12_net_22 rfl rfl ?_
      refine zr_iconst (pc := 23) (v := (0 : Int32)) h dX12_net_23 (by decide) ?_
      obtain ⟨q33, hf⟩ := zCk_s hf
      refine zr_iast (pc := 24) h gkc_270 q33 rfl dX12_net_24 ?_
      refine zr_mu h (fun μ34 eμ34 => ?_)
      have hf := zLt_s eμ34 hf
      refine zr_iincx (pc := 25) h dX12_net_25 rfl (by decide) rfl (c := (1 : Int32)) (by decide) (fun x35 ex35 => ?_)
      have hf := zLt_s ex35 hf
      refine zr_goto (pc := 28) (tgt := 11) h dX12_net_28 rfl ?_
      exact zr_weak h [true, true] (ih _ _ hf)

set_option maxRecDepth 100000 in
set_option maxHeartbeats 4000000 in
theorem cX12_net_ok {l : Launch} {g : gG} {μ : gM} {r : Int32} {ν : gM} (hf : fX12_net μ = some (r, ν)) : gMet l g yX12_net cX12_net 2 (some .int) 8 176 [.ref (g.1 + 267)] μ (some (.int r)) ν := by
  refine gMet_of (gIni [.ref (g.1 + 267)] ++ List.replicate 1 none) (by decide) (gIni_ok _ _) (Nat.le_of_ble_eq_true rfl) (fun K h => ?_)
  show K 0 [some (.ref (g.1 + 267)), none] [] μ
  unfold fX12_net at hf
  refine zr_aload_n (pc := 0) h dX12_net_0 rfl rfl ?_
  refine zr_iconst (pc := 1) (v := (0 : Int32)) h dX12_net_1 (by decide) ?_
  refine zp_X12_46 (pc := 2) h gkc_267 dX12_net_2 ?_
  refine zr_mu h (fun μ1 eμ1 => ?_)
  have hf := zLt_s eμ1 hf
  refine zr_aload_n (pc := 5) h dX12_net_5 rfl rfl ?_
  obtain ⟨μ2, eμ2, hf⟩ := zBd_s hf
  refine zm_X12_215 (pc := 6) h gkc_267 ⟨by decide, by decide⟩ (cX12_begins_ok eμ2) rfl (Nat.le_of_ble_eq_true rfl) dX12_net_6 rfl ?_
  refine zr_iconst (pc := 9) (v := (0 : Int32)) h dX12_net_9 (by decide) ?_
  refine zr_istore_n (pc := 10) h dX12_net_10 rfl (by decide) rfl ?_
  exact zr_weak h [true, true] (fX12_net_l11_ok h 100000 _ _ hf)

set_option maxRecDepth 100000 in
set_option maxHeartbeats 4000000 in
theorem cX12_fault_ok {l : Launch} {g : gG} {a1 : Int32} {μ : gM} {r : Int32} {ν : gM} (hf : fX12_fault a1 μ = some (r, ν)) : gMet l g yX12_fault cX12_fault 2 (some .int) 0 0 [.ref (g.1 + 267), .int a1] μ (some (.int r)) ν := by
  refine gMet_of (gIni [.ref (g.1 + 267), .int a1] ++ List.replicate 0 none) (by decide) (gIni_ok _ _) (Nat.le_of_ble_eq_true rfl) (fun K h => ?_)
  show K 0 [some (.ref (g.1 + 267)), some (.int a1)] [] μ
  unfold fX12_fault at hf
  refine zr_aload_n (pc := 0) h dX12_fault_0 rfl rfl ?_
  refine zr_iconst (pc := 1) (v := (0 : Int32)) h dX12_fault_1 (by decide) ?_
  refine zp_X12_46 (pc := 2) h gkc_267 dX12_fault_2 ?_
  refine zr_mu h (fun μ1 eμ1 => ?_)
  have hf := zLt_s eμ1 hf
  refine zr_iload_n (pc := 5) h dX12_fault_5 rfl rfl ?_
  have hf := zIf_s hf
  refine zr_if_ne (pc := 6) (tgt := 16) h dX12_fault_6 rfl (fun b3 => ?_) (fun b3 => ?_)
  · have hf := hf.2 b3
    refine zr_iload_n (pc := 16) h dX12_fault_16 rfl rfl ?_
    refine zr_iconst (pc := 17) (v := (1 : Int32)) h dX12_fault_17 (by decide) ?_
    have hf := zIf_s hf
    refine zr_icmp_ne (pc := 18) (tgt := 28) h dX12_fault_18 rfl (fun b2 => ?_) (fun b2 => ?_)
    · have hf := hf.2 b2
      refine zr_iconst (pc := 28) (v := (-1 : Int32)) h dX12_fault_28 (by decide) ?_
      exact zr_iret (pc := 29) h dX12_fault_29 (zRp hf).1 (zRp hf).2
    · have hf := hf.1 b2
      refine zr_aload_n (pc := 21) h dX12_fault_21 rfl rfl ?_
      refine zf_X12_13 (pc := 22) h gkc_267 dX12_fault_22 ?_
      refine zr_goto (pc := 25) (tgt := 29) h dX12_fault_25 rfl ?_
      exact zr_iret (pc := 29) h dX12_fault_29 (zRp hf).1 (zRp hf).2
  · have hf := hf.1 b3
    refine zr_aload_n (pc := 9) h dX12_fault_9 rfl rfl ?_
    refine zf_X12_91 (pc := 10) h gkc_267 dX12_fault_10 ?_
    refine zr_goto (pc := 13) (tgt := 29) h dX12_fault_13 rfl ?_
    exact zr_iret (pc := 29) h dX12_fault_29 (zRp hf).1 (zRp hf).2

set_option maxRecDepth 100000 in
set_option maxHeartbeats 4000000 in
theorem cX12_laysEvent_ok {l : Launch} {g : gG} {a1 : Int32} {a2 : Int32} {a3 : Int32} {a4 : Int32} {a5 : Int32} {μ : gM} {ν : gM} (hf : fX12_laysEvent a1 a2 a3 a4 a5 μ = some ν) : gMet l g yX12_laysEvent cX12_laysEvent 6 none 1 20 [.ref (g.1 + 267), .int a1, .int a2, .int a3, .int a4, .int a5] μ none ν := by
  refine gMet_of (gIni [.ref (g.1 + 267), .int a1, .int a2, .int a3, .int a4, .int a5] ++ List.replicate 0 none) (by decide) (gIni_ok _ _) (Nat.le_of_ble_eq_true rfl) (fun K h => ?_)
  show K 0 [some (.ref (g.1 + 267)), some (.int a1), some (.int a2), some (.int a3), some (.int a4), some (.int a5)] [] μ
  unfold fX12_laysEvent at hf
  refine zr_aload_n (pc := 0) h dX12_laysEvent_0 rfl rfl ?_
  obtain ⟨x1, ex1, hf⟩ := zBd_s hf
  refine zm_X12_110 (pc := 1) h gkc_267 ⟨by decide, by decide⟩ (cX12_isFine_ok ex1) rfl (Nat.le_of_ble_eq_true rfl) dX12_laysEvent_1 rfl ?_
  have hf := zIf_s hf
  refine zr_if_ne (pc := 4) (tgt := 8) h dX12_laysEvent_4 rfl (fun b10 => ?_) (fun b10 => ?_)
  · have hf := hf.2 b10
    refine zr_aload_n (pc := 8) h dX12_laysEvent_8 rfl rfl ?_
    refine zf_X12_24 (pc := 9) h gkc_267 dX12_laysEvent_9 ?_
    refine zr_iconst (pc := 12) (v := (5 : Int32)) h dX12_laysEvent_12 (by decide) ?_
    refine zr_iload_n (pc := 13) h dX12_laysEvent_13 rfl rfl ?_
    refine zr_imul (pc := 14) h dX12_laysEvent_14 ?_
    refine zr_iconst (pc := 15) (v := (1 : Int32)) h dX12_laysEvent_15 (by decide) ?_
    refine zr_iadd (pc := 16) h dX12_laysEvent_16 ?_
    refine zr_iload_n (pc := 17) h dX12_laysEvent_17 rfl rfl ?_
    obtain ⟨q2, hf⟩ := zCk_s hf
    refine zr_iast (pc := 18) h gkc_271 q2 rfl dX12_laysEvent_18 ?_
    refine zr_mu h (fun μ3 eμ3 => ?_)
    have hf := zLt_s eμ3 hf
    refine zr_aload_n (pc := 19) h dX12_laysEvent_19 rfl rfl ?_
    refine zf_X12_24 (pc := 20) h gkc_267 dX12_laysEvent_20 ?_
    refine zr_iconst (pc := 23) (v := (5 : Int32)) h dX12_laysEvent_23 (by decide) ?_
    refine zr_iload_n (pc := 24) h dX12_laysEvent_24 rfl rfl ?_
    refine zr_imul (pc := 25) h dX12_laysEvent_25 ?_
    refine zr_iconst (pc := 26) (v := (2 : Int32)) h dX12_laysEvent_26 (by decide) ?_
    refine zr_iadd (pc := 27) h dX12_laysEvent_27 ?_
    refine zr_iload_n (pc := 28) h dX12_laysEvent_28 rfl rfl ?_
    obtain ⟨q4, hf⟩ := zCk_s hf
    refine zr_iast (pc := 29) h gkc_271 q4 rfl dX12_laysEvent_29 ?_
    refine zr_mu h (fun μ5 eμ5 => ?_)
    have hf := zLt_s eμ5 hf
    refine zr_aload_n (pc := 30) h dX12_laysEvent_30 rfl rfl ?_
    refine zf_X12_24 (pc := 31) h gkc_267 dX12_laysEvent_31 ?_
    refine zr_iconst (pc := 34) (v := (5 : Int32)) h dX12_laysEvent_34 (by decide) ?_
    refine zr_iload_n (pc := 35) h dX12_laysEvent_35 rfl rfl ?_
    refine zr_imul (pc := 36) h dX12_laysEvent_36 ?_
    refine zr_iconst (pc := 37) (v := (3 : Int32)) h dX12_laysEvent_37 (by decide) ?_
    refine zr_iadd (pc := 38) h dX12_laysEvent_38 ?_
    refine zr_iload (pc := 39) h dX12_laysEvent_39 rfl ?_
    obtain ⟨q6, hf⟩ := zCk_s hf
    refine zr_iast (pc := 41) h gkc_271 q6 rfl dX12_laysEvent_41 ?_
    refine zr_mu h (fun μ7 eμ7 => ?_)
    have hf := zLt_s eμ7 hf
    refine zr_aload_n (pc := 42) h dX12_laysEvent_42 rfl rfl ?_
    refine zf_X12_24 (pc := 43) h gkc_267 dX12_laysEvent_43 ?_
    refine zr_iconst (pc := 46) (v := (5 : Int32)) h dX12_laysEvent_46 (by decide) ?_
    refine zr_iload_n (pc := 47) h dX12_laysEvent_47 rfl rfl ?_
    refine zr_imul (pc := 48) h dX12_laysEvent_48 ?_
    refine zr_iconst (pc := 49) (v := (4 : Int32)) h dX12_laysEvent_49 (by decide) ?_
    refine zr_iadd (pc := 50) h dX12_laysEvent_50 ?_
    refine zr_iload (pc := 51) h dX12_laysEvent_51 rfl ?_
    obtain ⟨q8, hf⟩ := zCk_s hf
    refine zr_iast (pc := 53) h gkc_271 q8 rfl dX12_laysEvent_53 ?_
    refine zr_mu h (fun μ9 eμ9 => ?_)
    have hf := zLt_s eμ9 hf
    exact zr_vret (pc := 54) h dX12_laysEvent_54 rfl (zRv hf)
  · have hf := hf.1 b10
    exact zr_vret (pc := 7) h dX12_laysEvent_7 rfl (zRv hf)

set_option maxRecDepth 100000 in
set_option maxHeartbeats 4000000 in
theorem fX12_splitRead_n88_ok {l : Launch} {g : gG} {ν : gM} {K : gKt} (h : gR l g cX12_splitRead RX12 5 none (gRm 5 110) none ν K) {y1 : Int32} {y2 : Int32} {μ : gM} (hf : fX12_splitRead_n88 y1 y2 μ = some ν) : K 88 [some (.ref (g.1 + 267)), some (.int y1), some (.int y2), none, none] [] μ := by
  unfold fX12_splitRead_n88 at hf
  refine zr_aload_n (pc := 88) h dX12_splitRead_88 rfl rfl ?_
  refine zr_iload_n (pc := 89) h dX12_splitRead_89 rfl rfl ?_
  refine zr_iconst (pc := 90) (v := (4 : Int32)) h dX12_splitRead_90 (by decide) ?_
  refine zr_iload_n (pc := 91) h dX12_splitRead_91 rfl rfl ?_
  refine zr_iconst (pc := 92) (v := (-1 : Int32)) h dX12_splitRead_92 (by decide) ?_
  refine zr_iconst (pc := 93) (v := (-1 : Int32)) h dX12_splitRead_93 (by decide) ?_
  obtain ⟨μ2, eμ2, hf⟩ := zBd_s hf
  refine zm_X12_234 (pc := 94) h gkc_267 ⟨by decide, by decide⟩ (cX12_laysEvent_ok eμ2) rfl (Nat.le_of_ble_eq_true rfl) dX12_splitRead_94 rfl ?_
  exact zr_vret (pc := 97) h dX12_splitRead_97 rfl (zRv hf)

set_option maxRecDepth 100000 in
set_option maxHeartbeats 4000000 in
theorem fX12_splitRead_n65_ok {l : Launch} {g : gG} {k4 : Int32 → Int32 → Int32 → gM → Option gM} {ν : gM} {K : gKt} (h : gR l g cX12_splitRead RX12 5 none (gRm 5 110) none ν K) (hk4 : ∀ (y1 : Int32) (y2 : Int32) (y3 : Int32) (ν1 : gM), k4 y1 y2 y3 ν1 = some ν → K 4 [some (.ref (g.1 + 267)), some (.int y1), some (.int y2), some (.int y3), none] [] ν1) {y1 : Int32} {y2 : Int32} {μ : gM} (hf : fX12_splitRead_n65 k4 y1 y2 μ = some ν) : K 65 [some (.ref (g.1 + 267)), some (.int y1), some (.int y2), none, none] [] μ := by
  unfold fX12_splitRead_n65 at hf
  refine zr_aload_n (pc := 65) h dX12_splitRead_65 rfl rfl ?_
  obtain ⟨x7, ex7, hf⟩ := zBd_s hf
  refine zm_X12_110 (pc := 66) h gkc_267 ⟨by decide, by decide⟩ (cX12_isFine_ok ex7) rfl (Nat.le_of_ble_eq_true rfl) dX12_splitRead_66 rfl ?_
  have hf := zIf_s hf
  refine zr_if_eq (pc := 69) (tgt := 83) h dX12_splitRead_69 rfl (fun b11 => ?_) (fun b11 => ?_)
  · have hf := hf.1 b11
    refine zr_iconst (pc := 83) (v := (0 : Int32)) h dX12_splitRead_83 (by decide) ?_
    refine zr_istore_n (pc := 84) h dX12_splitRead_84 rfl (by decide) rfl ?_
    refine zr_goto (pc := 85) (tgt := 4) h dX12_splitRead_85 rfl ?_
    exact zr_weak h [true, true, true, true, false] (hk4 _ _ _ _ hf)
  · have hf := hf.2 b11
    refine zr_aload_n (pc := 72) h dX12_splitRead_72 rfl rfl ?_
    obtain ⟨x8, μ9, ex8, hf⟩ := zBp_s hf
    refine zm_X12_158 (pc := 73) h gkc_267 ⟨by decide, by decide⟩ (cX12_isName_ok ex8) rfl (Nat.le_of_ble_eq_true rfl) dX12_splitRead_73 rfl ?_
    have hf := zIf_s hf
    refine zr_if_eq (pc := 76) (tgt := 83) h dX12_splitRead_76 rfl (fun b10 => ?_) (fun b10 => ?_)
    · have hf := hf.1 b10
      refine zr_iconst (pc := 83) (v := (0 : Int32)) h dX12_splitRead_83 (by decide) ?_
      refine zr_istore_n (pc := 84) h dX12_splitRead_84 rfl (by decide) rfl ?_
      refine zr_goto (pc := 85) (tgt := 4) h dX12_splitRead_85 rfl ?_
      exact zr_weak h [true, true, true, true, false] (hk4 _ _ _ _ hf)
    · have hf := hf.2 b10
      refine zr_iconst (pc := 79) (v := (1 : Int32)) h dX12_splitRead_79 (by decide) ?_
      refine zr_goto (pc := 80) (tgt := 84) h dX12_splitRead_80 rfl ?_
      refine zr_istore_n (pc := 84) h dX12_splitRead_84 rfl (by decide) rfl ?_
      refine zr_goto (pc := 85) (tgt := 4) h dX12_splitRead_85 rfl ?_
      exact zr_weak h [true, true, true, true, false] (hk4 _ _ _ _ hf)

set_option maxRecDepth 100000 in
set_option maxHeartbeats 4000000 in
theorem fX12_splitRead_n51_ok {l : Launch} {g : gG} {k4 : Int32 → Int32 → Int32 → gM → Option gM} {ν : gM} {K : gKt} (h : gR l g cX12_splitRead RX12 5 none (gRm 5 110) none ν K) (hk4 : ∀ (y1 : Int32) (y2 : Int32) (y3 : Int32) (ν1 : gM), k4 y1 y2 y3 ν1 = some ν → K 4 [some (.ref (g.1 + 267)), some (.int y1), some (.int y2), some (.int y3), none] [] ν1) {y1 : Int32} {y2 : Int32} {y4 : Int32} {μ : gM} (hf : fX12_splitRead_n51 k4 y1 y2 y4 μ = some ν) : K 51 [some (.ref (g.1 + 267)), some (.int y1), some (.int y2), none, some (.int y4)] [] μ := by
  unfold fX12_splitRead_n51 at hf
  refine zr_aload_n (pc := 51) h dX12_splitRead_51 rfl rfl ?_
  obtain ⟨x6, ex6, hf⟩ := zBd_s hf
  refine zm_X12_110 (pc := 52) h gkc_267 ⟨by decide, by decide⟩ (cX12_isFine_ok ex6) rfl (Nat.le_of_ble_eq_true rfl) dX12_splitRead_52 rfl ?_
  have hf := zIf_s hf
  refine zr_if_eq (pc := 55) (tgt := 65) h dX12_splitRead_55 rfl (fun b13 => ?_) (fun b13 => ?_)
  · have hf := hf.1 b13
    exact zr_weak h [true, true, true, false, false] (fX12_splitRead_n65_ok h hk4 hf)
  · have hf := hf.2 b13
    refine zr_iload_n (pc := 58) h dX12_splitRead_58 rfl rfl ?_
    refine zr_iconst (pc := 59) (v := (1 : Int32)) h dX12_splitRead_59 (by decide) ?_
    refine zr_iload (pc := 60) h dX12_splitRead_60 rfl ?_
    refine zr_ishl (pc := 62) h dX12_splitRead_62 ?_
    refine zr_ior (pc := 63) h dX12_splitRead_63 ?_
    refine zr_topi h (fun x12 ex12 => ?_)
    have hf := zLt_s ex12 hf
    refine zr_istore_n (pc := 64) h dX12_splitRead_64 rfl (by decide) rfl ?_
    exact zr_weak h [true, true, true, false, false] (fX12_splitRead_n65_ok h hk4 hf)

set_option maxRecDepth 100000 in
set_option maxHeartbeats 4000000 in
theorem fX12_splitRead_l4_ok {l : Launch} {g : gG} {ν : gM} {K : gKt} (h : gR l g cX12_splitRead RX12 5 none (gRm 5 110) none ν K) : ∀ (n : Nat) (y1 : Int32) (y2 : Int32) (y3 : Int32) (μ : gM), fX12_splitRead_l4 n y1 y2 y3 μ = some ν → K 4 [some (.ref (g.1 + 267)), some (.int y1), some (.int y2), some (.int y3), none] [] μ := by
  intro n
  induction n with
  | zero =>
    intro y1 y2 y3 μ hf
    cases (show (none : Option gM) = some _ from hf)
  | succ n ih =>
    intro y1 y2 y3 μ hf
    unfold fX12_splitRead_l4 at hf
    refine zr_aload_n (pc := 4) h dX12_splitRead_4 rfl rfl ?_
    obtain ⟨x1, ex1, hf⟩ := zBd_s hf
    refine zm_X12_110 (pc := 5) h gkc_267 ⟨by decide, by decide⟩ (cX12_isFine_ok ex1) rfl (Nat.le_of_ble_eq_true rfl) dX12_splitRead_5 rfl ?_
    have hf := zIf_s hf
    refine zr_if_eq (pc := 8) (tgt := 88) h dX12_splitRead_8 rfl (fun b19 => ?_) (fun b19 => ?_)
    · have hf := hf.1 b19
      exact zr_weak h [true, true, true, false, false] (fX12_splitRead_n88_ok h hf)
    · have hf := hf.2 b19
      refine zr_iload_n (pc := 11) h dX12_splitRead_11 rfl rfl ?_
      have hf := zIf_s hf
      refine zr_if_eq (pc := 12) (tgt := 88) h dX12_splitRead_12 rfl (fun b18 => ?_) (fun b18 => ?_)
      · have hf := hf.1 b18
        exact zr_weak h [true, true, true, false, false] (fX12_splitRead_n88_ok h hf)
      · have hf := hf.2 b18
        refine zr_aload_n (pc := 15) h dX12_splitRead_15 rfl rfl ?_
        refine zr_aload_n (pc := 16) h dX12_splitRead_16 rfl rfl ?_
        refine zf_X12_17 (pc := 17) h gkc_267 dX12_splitRead_17 ?_
        refine zr_iconst (pc := 20) (v := (0 : Int32)) h dX12_splitRead_20 (by decide) ?_
        obtain ⟨x3, μ4, ex3, hf⟩ := zBp_s hf
        refine zm_X12_182 (pc := 21) h gkc_267 ⟨by decide, by decide⟩ (cX12_oneRead_ok gkc_269 ex3) rfl (Nat.le_of_ble_eq_true rfl) dX12_splitRead_21 rfl ?_
        refine zr_istore (pc := 24) h dX12_splitRead_24 (by decide) rfl ?_
        refine zr_aload_n (pc := 26) h dX12_splitRead_26 rfl rfl ?_
        obtain ⟨x5, ex5, hf⟩ := zBd_s hf
        refine zm_X12_110 (pc := 27) h gkc_267 ⟨by decide, by decide⟩ (cX12_isFine_ok ex5) rfl (Nat.le_of_ble_eq_true rfl) dX12_splitRead_27 rfl ?_
        have hf := zIf_s hf
        refine zr_if_eq (pc := 30) (tgt := 51) h dX12_splitRead_30 rfl (fun b17 => ?_) (fun b17 => ?_)
        · have hf := hf.1 b17
          exact zr_weak h [true, true, true, false, true] (fX12_splitRead_n51_ok h ih hf)
        · have hf := hf.2 b17
          refine zr_iload_n (pc := 33) h dX12_splitRead_33 rfl rfl ?_
          refine zr_iload (pc := 34) h dX12_splitRead_34 rfl ?_
          obtain ⟨x14, ex14, hf⟩ := zBd_s hf
          refine zm_X12_186 (pc := 36) h ⟨by decide, by decide⟩ (cX12_isOf_ok ex14) rfl (Nat.le_of_ble_eq_true rfl) dX12_splitRead_36 rfl ?_
          have hf := zIf_s hf
          refine zr_if_eq (pc := 39) (tgt := 51) h dX12_splitRead_39 rfl (fun b16 => ?_) (fun b16 => ?_)
          · have hf := hf.1 b16
            exact zr_weak h [true, true, true, false, true] (fX12_splitRead_n51_ok h ih hf)
          · have hf := hf.2 b16
            refine zr_aload_n (pc := 42) h dX12_splitRead_42 rfl rfl ?_
            refine zr_iconst (pc := 43) (v := (5 : Int32)) h dX12_splitRead_43 (by decide) ?_
            refine zr_aload_n (pc := 44) h dX12_splitRead_44 rfl rfl ?_
            refine zf_X12_165 (pc := 45) h gkc_267 dX12_splitRead_45 ?_
            obtain ⟨μ15, eμ15, hf⟩ := zBd_s hf
            refine zm_X12_106 (pc := 48) h gkc_267 ⟨by decide, by decide⟩ (cX12_fail_ok eμ15) rfl (Nat.le_of_ble_eq_true rfl) dX12_splitRead_48 rfl ?_
            exact zr_weak h [true, true, true, false, true] (fX12_splitRead_n51_ok h ih hf)

set_option maxRecDepth 100000 in
set_option maxHeartbeats 4000000 in
theorem cX12_splitRead_ok {l : Launch} {g : gG} {a1 : Int32} {μ : gM} {ν : gM} (hf : fX12_splitRead a1 μ = some ν) : gMet l g yX12_splitRead cX12_splitRead 5 none 5 110 [.ref (g.1 + 267), .int a1] μ none ν := by
  refine gMet_of (gIni [.ref (g.1 + 267), .int a1] ++ List.replicate 3 none) (by decide) (gIni_ok _ _) (Nat.le_of_ble_eq_true rfl) (fun K h => ?_)
  show K 0 [some (.ref (g.1 + 267)), some (.int a1), none, none, none] [] μ
  unfold fX12_splitRead at hf
  refine zr_iconst (pc := 0) (v := (0 : Int32)) h dX12_splitRead_0 (by decide) ?_
  refine zr_istore_n (pc := 1) h dX12_splitRead_1 rfl (by decide) rfl ?_
  refine zr_iconst (pc := 2) (v := (1 : Int32)) h dX12_splitRead_2 (by decide) ?_
  refine zr_istore_n (pc := 3) h dX12_splitRead_3 rfl (by decide) rfl ?_
  exact zr_weak h [true, true, true, true, false] (fX12_splitRead_l4_ok h 100000 _ _ _ _ hf)

set_option maxRecDepth 100000 in
set_option maxHeartbeats 4000000 in
theorem fX12_wordRead_n59_ok {l : Launch} {g : gG} {ν : gM} {K : gKt} (h : gR l g cX12_wordRead RX12 5 none (gRm 6 130) none ν K) {y1 : Int32} {y2 : Int32} {y3 : Int32} {μ : gM} (hf : fX12_wordRead_n59 y1 y2 y3 μ = some ν) : K 59 [some (.ref (g.1 + 267)), some (.int y1), some (.int y2), some (.int y3), none] [] μ := by
  unfold fX12_wordRead_n59 at hf
  refine zr_aload_n (pc := 59) h dX12_wordRead_59 rfl rfl ?_
  refine zr_iconst (pc := 60) (v := (1 : Int32)) h dX12_wordRead_60 (by decide) ?_
  refine zr_sipush (pc := 61) (v := (255 : Int32)) h dX12_wordRead_61 (by decide) ?_
  obtain ⟨x7, μ8, ex7, hf⟩ := zBp_s hf
  refine zm_X12_174 (pc := 64) h gkc_267 ⟨by decide, by decide⟩ (cX12_number_ok ex7) rfl (Nat.le_of_ble_eq_true rfl) dX12_wordRead_64 rfl ?_
  refine zr_istore (pc := 67) h dX12_wordRead_67 (by decide) rfl ?_
  refine zr_aload_n (pc := 69) h dX12_wordRead_69 rfl rfl ?_
  refine zr_iload_n (pc := 70) h dX12_wordRead_70 rfl rfl ?_
  refine zr_bipush (pc := 71) (v := (6 : Int32)) h dX12_wordRead_71 (by decide) ?_
  refine zr_iload_n (pc := 73) h dX12_wordRead_73 rfl rfl ?_
  refine zr_iload_n (pc := 74) h dX12_wordRead_74 rfl rfl ?_
  refine zr_iload (pc := 75) h dX12_wordRead_75 rfl ?_
  obtain ⟨μ9, eμ9, hf⟩ := zBd_s hf
  refine zm_X12_234 (pc := 77) h gkc_267 ⟨by decide, by decide⟩ (cX12_laysEvent_ok eμ9) rfl (Nat.le_of_ble_eq_true rfl) dX12_wordRead_77 rfl ?_
  exact zr_vret (pc := 80) h dX12_wordRead_80 rfl (zRv hf)

set_option maxRecDepth 100000 in
set_option maxHeartbeats 4000000 in
theorem cX12_wordRead_ok {l : Launch} {g : gG} {a1 : Int32} {μ : gM} {ν : gM} (hf : fX12_wordRead a1 μ = some ν) : gMet l g yX12_wordRead cX12_wordRead 5 none 6 130 [.ref (g.1 + 267), .int a1] μ none ν := by
  refine gMet_of (gIni [.ref (g.1 + 267), .int a1] ++ List.replicate 3 none) (by decide) (gIni_ok _ _) (Nat.le_of_ble_eq_true rfl) (fun K h => ?_)
  show K 0 [some (.ref (g.1 + 267)), some (.int a1), none, none, none] [] μ
  unfold fX12_wordRead at hf
  refine zr_aload_n (pc := 0) h dX12_wordRead_0 rfl rfl ?_
  refine zr_aload_n (pc := 1) h dX12_wordRead_1 rfl rfl ?_
  refine zf_X12_17 (pc := 2) h gkc_267 dX12_wordRead_2 ?_
  refine zr_iconst (pc := 5) (v := (0 : Int32)) h dX12_wordRead_5 (by decide) ?_
  obtain ⟨x1, μ2, ex1, hf⟩ := zBp_s hf
  refine zm_X12_182 (pc := 6) h gkc_267 ⟨by decide, by decide⟩ (cX12_oneRead_ok gkc_269 ex1) rfl (Nat.le_of_ble_eq_true rfl) dX12_wordRead_6 rfl ?_
  refine zr_istore_n (pc := 9) h dX12_wordRead_9 rfl (by decide) rfl ?_
  refine zr_aload_n (pc := 10) h dX12_wordRead_10 rfl rfl ?_
  refine zr_sipush (pc := 11) (v := (486 : Int32)) h dX12_wordRead_11 (by decide) ?_
  obtain ⟨μ3, eμ3, hf⟩ := zBd_s hf
  refine zm_X12_171 (pc := 14) h gkc_267 ⟨by decide, by decide⟩ (cX12_asks_ok eμ3) rfl (Nat.le_of_ble_eq_true rfl) dX12_wordRead_14 rfl ?_
  refine zr_aload_n (pc := 17) h dX12_wordRead_17 rfl rfl ?_
  refine zr_aload_n (pc := 18) h dX12_wordRead_18 rfl rfl ?_
  refine zf_X12_17 (pc := 19) h gkc_267 dX12_wordRead_19 ?_
  refine zr_iconst (pc := 22) (v := (2 : Int32)) h dX12_wordRead_22 (by decide) ?_
  obtain ⟨x4, μ5, ex4, hf⟩ := zBp_s hf
  refine zm_X12_182 (pc := 23) h gkc_267 ⟨by decide, by decide⟩ (cX12_oneRead_ok gkc_269 ex4) rfl (Nat.le_of_ble_eq_true rfl) dX12_wordRead_23 rfl ?_
  refine zr_istore_n (pc := 26) h dX12_wordRead_26 rfl (by decide) rfl ?_
  refine zr_aload_n (pc := 27) h dX12_wordRead_27 rfl rfl ?_
  obtain ⟨x6, ex6, hf⟩ := zBd_s hf
  refine zm_X12_110 (pc := 28) h gkc_267 ⟨by decide, by decide⟩ (cX12_isFine_ok ex6) rfl (Nat.le_of_ble_eq_true rfl) dX12_wordRead_28 rfl ?_
  have hf := zIf_s hf
  refine zr_if_eq (pc := 31) (tgt := 59) h dX12_wordRead_31 rfl (fun b14 => ?_) (fun b14 => ?_)
  · have hf := hf.1 b14
    exact zr_weak h [true, true, true, true, false] (fX12_wordRead_n59_ok h hf)
  · have hf := hf.2 b14
    refine zr_aload_n (pc := 34) h dX12_wordRead_34 rfl rfl ?_
    refine zf_X12_17 (pc := 35) h gkc_267 dX12_wordRead_35 ?_
    refine zr_bipush (pc := 38) (v := (48 : Int32)) h dX12_wordRead_38 (by decide) ?_
    refine zr_iload_n (pc := 40) h dX12_wordRead_40 rfl rfl ?_
    refine zr_iadd (pc := 41) h dX12_wordRead_41 ?_
    obtain ⟨q10, hf⟩ := zCk_s hf
    refine zr_iald (pc := 42) h gkc_269 q10 rfl dX12_wordRead_42 ?_
    refine zr_iload_n (pc := 43) h dX12_wordRead_43 rfl rfl ?_
    obtain ⟨x11, ex11, hf⟩ := zBd_s hf
    refine zm_X12_186 (pc := 44) h ⟨by decide, by decide⟩ (cX12_isOf_ok ex11) rfl (Nat.le_of_ble_eq_true rfl) dX12_wordRead_44 rfl ?_
    have hf := zIf_s hf
    refine zr_if_ne (pc := 47) (tgt := 59) h dX12_wordRead_47 rfl (fun b13 => ?_) (fun b13 => ?_)
    · have hf := hf.2 b13
      exact zr_weak h [true, true, true, true, false] (fX12_wordRead_n59_ok h hf)
    · have hf := hf.1 b13
      refine zr_aload_n (pc := 50) h dX12_wordRead_50 rfl rfl ?_
      refine zr_iconst (pc := 51) (v := (5 : Int32)) h dX12_wordRead_51 (by decide) ?_
      refine zr_aload_n (pc := 52) h dX12_wordRead_52 rfl rfl ?_
      refine zf_X12_165 (pc := 53) h gkc_267 dX12_wordRead_53 ?_
      obtain ⟨μ12, eμ12, hf⟩ := zBd_s hf
      refine zm_X12_106 (pc := 56) h gkc_267 ⟨by decide, by decide⟩ (cX12_fail_ok eμ12) rfl (Nat.le_of_ble_eq_true rfl) dX12_wordRead_56 rfl ?_
      exact zr_weak h [true, true, true, true, false] (fX12_wordRead_n59_ok h hf)

set_option maxRecDepth 100000 in
set_option maxHeartbeats 4000000 in
theorem fX12_eventRead_n284_ok {l : Launch} {g : gG} {ν : gM} {K : gKt} (h : gR l g cX12_eventRead RX12 3 none (gRm 7 154) none ν K) {μ : gM} (hf : fX12_eventRead_n284 μ = some ν) : K 284 [some (.ref (g.1 + 267)), none, none] [] μ := by
  unfold fX12_eventRead_n284 at hf
  refine zr_aload_n (pc := 284) h dX12_eventRead_284 rfl rfl ?_
  refine zr_bipush (pc := 285) (v := (59 : Int32)) h dX12_eventRead_285 (by decide) ?_
  obtain ⟨μ24, eμ24, hf⟩ := zBd_s hf
  refine zm_X12_212 (pc := 287) h gkc_267 ⟨by decide, by decide⟩ (cX12_needsSign_ok eμ24) rfl (Nat.le_of_ble_eq_true rfl) dX12_eventRead_287 rfl ?_
  exact zr_vret (pc := 290) h dX12_eventRead_290 rfl (zRv hf)

set_option maxRecDepth 100000 in
set_option maxHeartbeats 4000000 in
theorem fX12_eventRead_n100_ok {l : Launch} {g : gG} {ν : gM} {K : gKt} (h : gR l g cX12_eventRead RX12 3 none (gRm 7 154) none ν K) {y1 : Int32} {μ : gM} (hf : fX12_eventRead_n100 y1 μ = some ν) : K 100 [some (.ref (g.1 + 267)), some (.int y1), none] [] μ := by
  unfold fX12_eventRead_n100 at hf
  refine zr_aload_n (pc := 100) h dX12_eventRead_100 rfl rfl ?_
  refine zr_sipush (pc := 101) (v := (688 : Int32)) h dX12_eventRead_101 (by decide) ?_
  obtain ⟨x9, μ10, ex9, hf⟩ := zBp_s hf
  refine zm_X12_142 (pc := 104) h gkc_267 ⟨by decide, by decide⟩ (cX12_takes_ok ex9) rfl (Nat.le_of_ble_eq_true rfl) dX12_eventRead_104 rfl ?_
  have hf := zIf_s hf
  refine zr_if_eq (pc := 107) (tgt := 130) h dX12_eventRead_107 rfl (fun b48 => ?_) (fun b48 => ?_)
  · have hf := hf.1 b48
    refine zr_aload_n (pc := 130) h dX12_eventRead_130 rfl rfl ?_
    refine zr_ldc (pc := 131) h zw_1544 dX12_eventRead_131 ?_
    obtain ⟨x11, μ12, ex11, hf⟩ := zBp_s hf
    refine zm_X12_142 (pc := 133) h gkc_267 ⟨by decide, by decide⟩ (cX12_takes_ok ex11) rfl (Nat.le_of_ble_eq_true rfl) dX12_eventRead_133 rfl ?_
    have hf := zIf_s hf
    refine zr_if_eq (pc := 136) (tgt := 159) h dX12_eventRead_136 rfl (fun b44 => ?_) (fun b44 => ?_)
    · have hf := hf.1 b44
      refine zr_aload_n (pc := 159) h dX12_eventRead_159 rfl rfl ?_
      refine zr_sipush (pc := 160) (v := (3764 : Int32)) h dX12_eventRead_160 (by decide) ?_
      obtain ⟨x13, μ14, ex13, hf⟩ := zBp_s hf
      refine zm_X12_142 (pc := 163) h gkc_267 ⟨by decide, by decide⟩ (cX12_takes_ok ex13) rfl (Nat.le_of_ble_eq_true rfl) dX12_eventRead_163 rfl ?_
      have hf := zIf_s hf
      refine zr_if_eq (pc := 166) (tgt := 189) h dX12_eventRead_166 rfl (fun b40 => ?_) (fun b40 => ?_)
      · have hf := hf.1 b40
        refine zr_aload_n (pc := 189) h dX12_eventRead_189 rfl rfl ?_
        refine zr_ldc (pc := 190) h zw_1545 dX12_eventRead_190 ?_
        obtain ⟨x15, μ16, ex15, hf⟩ := zBp_s hf
        refine zm_X12_142 (pc := 192) h gkc_267 ⟨by decide, by decide⟩ (cX12_takes_ok ex15) rfl (Nat.le_of_ble_eq_true rfl) dX12_eventRead_192 rfl ?_
        have hf := zIf_s hf
        refine zr_if_eq (pc := 195) (tgt := 218) h dX12_eventRead_195 rfl (fun b36 => ?_) (fun b36 => ?_)
        · have hf := hf.1 b36
          refine zr_aload_n (pc := 218) h dX12_eventRead_218 rfl rfl ?_
          refine zr_ldc (pc := 219) h zw_1546 dX12_eventRead_219 ?_
          obtain ⟨x17, μ18, ex17, hf⟩ := zBp_s hf
          refine zm_X12_142 (pc := 221) h gkc_267 ⟨by decide, by decide⟩ (cX12_takes_ok ex17) rfl (Nat.le_of_ble_eq_true rfl) dX12_eventRead_221 rfl ?_
          have hf := zIf_s hf
          refine zr_if_eq (pc := 224) (tgt := 235) h dX12_eventRead_224 rfl (fun b32 => ?_) (fun b32 => ?_)
          · have hf := hf.1 b32
            refine zr_aload_n (pc := 235) h dX12_eventRead_235 rfl rfl ?_
            refine zr_ldc (pc := 236) h zw_1547 dX12_eventRead_236 ?_
            obtain ⟨x19, μ20, ex19, hf⟩ := zBp_s hf
            refine zm_X12_142 (pc := 238) h gkc_267 ⟨by decide, by decide⟩ (cX12_takes_ok ex19) rfl (Nat.le_of_ble_eq_true rfl) dX12_eventRead_238 rfl ?_
            have hf := zIf_s hf
            refine zr_if_eq (pc := 241) (tgt := 256) h dX12_eventRead_241 rfl (fun b30 => ?_) (fun b30 => ?_)
            · have hf := hf.1 b30
              refine zr_aload_n (pc := 256) h dX12_eventRead_256 rfl rfl ?_
              refine zr_ldc (pc := 257) h zw_1541 dX12_eventRead_257 ?_
              obtain ⟨x21, μ22, ex21, hf⟩ := zBp_s hf
              refine zm_X12_142 (pc := 259) h gkc_267 ⟨by decide, by decide⟩ (cX12_takes_ok ex21) rfl (Nat.le_of_ble_eq_true rfl) dX12_eventRead_259 rfl ?_
              have hf := zIf_s hf
              refine zr_if_eq (pc := 262) (tgt := 273) h dX12_eventRead_262 rfl (fun b28 => ?_) (fun b28 => ?_)
              · have hf := hf.1 b28
                refine zr_aload_n (pc := 273) h dX12_eventRead_273 rfl rfl ?_
                obtain ⟨x23, ex23, hf⟩ := zBd_s hf
                refine zm_X12_110 (pc := 274) h gkc_267 ⟨by decide, by decide⟩ (cX12_isFine_ok ex23) rfl (Nat.le_of_ble_eq_true rfl) dX12_eventRead_274 rfl ?_
                have hf := zIf_s hf
                refine zr_if_eq (pc := 277) (tgt := 284) h dX12_eventRead_277 rfl (fun b26 => ?_) (fun b26 => ?_)
                · have hf := hf.1 b26
                  exact zr_weak h [true, false, false] (fX12_eventRead_n284_ok h hf)
                · have hf := hf.2 b26
                  refine zr_aload_n (pc := 280) h dX12_eventRead_280 rfl rfl ?_
                  obtain ⟨μ25, eμ25, hf⟩ := zBd_s hf
                  refine zm_X12_121 (pc := 281) h gkc_267 ⟨by decide, by decide⟩ (cX12_unlike_ok eμ25) rfl (Nat.le_of_ble_eq_true rfl) dX12_eventRead_281 rfl ?_
                  exact zr_weak h [true, false, false] (fX12_eventRead_n284_ok h hf)
              · have hf := hf.2 b28
                refine zr_aload_n (pc := 265) h dX12_eventRead_265 rfl rfl ?_
                refine zr_iload_n (pc := 266) h dX12_eventRead_266 rfl rfl ?_
                obtain ⟨μ27, eμ27, hf⟩ := zBd_s hf
                refine zm_X12_241 (pc := 267) h gkc_267 ⟨by decide, by decide⟩ (cX12_wordRead_ok eμ27) rfl (Nat.le_of_ble_eq_true rfl) dX12_eventRead_267 rfl ?_
                refine zr_goto (pc := 270) (tgt := 284) h dX12_eventRead_270 rfl ?_
                exact zr_weak h [true, false, false] (fX12_eventRead_n284_ok h hf)
            · have hf := hf.2 b30
              refine zr_aload_n (pc := 244) h dX12_eventRead_244 rfl rfl ?_
              refine zr_iload_n (pc := 245) h dX12_eventRead_245 rfl rfl ?_
              refine zr_iconst (pc := 246) (v := (5 : Int32)) h dX12_eventRead_246 (by decide) ?_
              refine zr_iconst (pc := 247) (v := (-1 : Int32)) h dX12_eventRead_247 (by decide) ?_
              refine zr_iconst (pc := 248) (v := (-1 : Int32)) h dX12_eventRead_248 (by decide) ?_
              refine zr_iconst (pc := 249) (v := (-1 : Int32)) h dX12_eventRead_249 (by decide) ?_
              obtain ⟨μ29, eμ29, hf⟩ := zBd_s hf
              refine zm_X12_234 (pc := 250) h gkc_267 ⟨by decide, by decide⟩ (cX12_laysEvent_ok eμ29) rfl (Nat.le_of_ble_eq_true rfl) dX12_eventRead_250 rfl ?_
              refine zr_goto (pc := 253) (tgt := 284) h dX12_eventRead_253 rfl ?_
              exact zr_weak h [true, false, false] (fX12_eventRead_n284_ok h hf)
          · have hf := hf.2 b32
            refine zr_aload_n (pc := 227) h dX12_eventRead_227 rfl rfl ?_
            refine zr_iload_n (pc := 228) h dX12_eventRead_228 rfl rfl ?_
            obtain ⟨μ31, eμ31, hf⟩ := zBd_s hf
            refine zm_X12_238 (pc := 229) h gkc_267 ⟨by decide, by decide⟩ (cX12_splitRead_ok eμ31) rfl (Nat.le_of_ble_eq_true rfl) dX12_eventRead_229 rfl ?_
            refine zr_goto (pc := 232) (tgt := 284) h dX12_eventRead_232 rfl ?_
            exact zr_weak h [true, false, false] (fX12_eventRead_n284_ok h hf)
        · have hf := hf.2 b36
          refine zr_aload_n (pc := 198) h dX12_eventRead_198 rfl rfl ?_
          refine zr_iload_n (pc := 199) h dX12_eventRead_199 rfl rfl ?_
          refine zr_iconst (pc := 200) (v := (3 : Int32)) h dX12_eventRead_200 (by decide) ?_
          refine zr_aload_n (pc := 201) h dX12_eventRead_201 rfl rfl ?_
          refine zr_aload_n (pc := 202) h dX12_eventRead_202 rfl rfl ?_
          refine zf_X12_17 (pc := 203) h gkc_267 dX12_eventRead_203 ?_
          refine zr_iconst (pc := 206) (v := (1 : Int32)) h dX12_eventRead_206 (by decide) ?_
          obtain ⟨x33, μ34, ex33, hf⟩ := zBp_s hf
          refine zm_X12_182 (pc := 207) h gkc_267 ⟨by decide, by decide⟩ (cX12_oneRead_ok gkc_269 ex33) rfl (Nat.le_of_ble_eq_true rfl) dX12_eventRead_207 rfl ?_
          refine zr_iconst (pc := 210) (v := (-1 : Int32)) h dX12_eventRead_210 (by decide) ?_
          refine zr_iconst (pc := 211) (v := (-1 : Int32)) h dX12_eventRead_211 (by decide) ?_
          obtain ⟨μ35, eμ35, hf⟩ := zBd_s hf
          refine zm_X12_234 (pc := 212) h gkc_267 ⟨by decide, by decide⟩ (cX12_laysEvent_ok eμ35) rfl (Nat.le_of_ble_eq_true rfl) dX12_eventRead_212 rfl ?_
          refine zr_goto (pc := 215) (tgt := 284) h dX12_eventRead_215 rfl ?_
          exact zr_weak h [true, false, false] (fX12_eventRead_n284_ok h hf)
      · have hf := hf.2 b40
        refine zr_aload_n (pc := 169) h dX12_eventRead_169 rfl rfl ?_
        refine zr_iload_n (pc := 170) h dX12_eventRead_170 rfl rfl ?_
        refine zr_iconst (pc := 171) (v := (2 : Int32)) h dX12_eventRead_171 (by decide) ?_
        refine zr_aload_n (pc := 172) h dX12_eventRead_172 rfl rfl ?_
        refine zr_aload_n (pc := 173) h dX12_eventRead_173 rfl rfl ?_
        refine zf_X12_17 (pc := 174) h gkc_267 dX12_eventRead_174 ?_
        refine zr_iconst (pc := 177) (v := (1 : Int32)) h dX12_eventRead_177 (by decide) ?_
        obtain ⟨x37, μ38, ex37, hf⟩ := zBp_s hf
        refine zm_X12_182 (pc := 178) h gkc_267 ⟨by decide, by decide⟩ (cX12_oneRead_ok gkc_269 ex37) rfl (Nat.le_of_ble_eq_true rfl) dX12_eventRead_178 rfl ?_
        refine zr_iconst (pc := 181) (v := (-1 : Int32)) h dX12_eventRead_181 (by decide) ?_
        refine zr_iconst (pc := 182) (v := (-1 : Int32)) h dX12_eventRead_182 (by decide) ?_
        obtain ⟨μ39, eμ39, hf⟩ := zBd_s hf
        refine zm_X12_234 (pc := 183) h gkc_267 ⟨by decide, by decide⟩ (cX12_laysEvent_ok eμ39) rfl (Nat.le_of_ble_eq_true rfl) dX12_eventRead_183 rfl ?_
        refine zr_goto (pc := 186) (tgt := 284) h dX12_eventRead_186 rfl ?_
        exact zr_weak h [true, false, false] (fX12_eventRead_n284_ok h hf)
    · have hf := hf.2 b44
      refine zr_aload_n (pc := 139) h dX12_eventRead_139 rfl rfl ?_
      refine zr_iload_n (pc := 140) h dX12_eventRead_140 rfl rfl ?_
      refine zr_iconst (pc := 141) (v := (1 : Int32)) h dX12_eventRead_141 (by decide) ?_
      refine zr_aload_n (pc := 142) h dX12_eventRead_142 rfl rfl ?_
      refine zr_aload_n (pc := 143) h dX12_eventRead_143 rfl rfl ?_
      refine zf_X12_17 (pc := 144) h gkc_267 dX12_eventRead_144 ?_
      refine zr_iconst (pc := 147) (v := (0 : Int32)) h dX12_eventRead_147 (by decide) ?_
      obtain ⟨x41, μ42, ex41, hf⟩ := zBp_s hf
      refine zm_X12_182 (pc := 148) h gkc_267 ⟨by decide, by decide⟩ (cX12_oneRead_ok gkc_269 ex41) rfl (Nat.le_of_ble_eq_true rfl) dX12_eventRead_148 rfl ?_
      refine zr_iconst (pc := 151) (v := (-1 : Int32)) h dX12_eventRead_151 (by decide) ?_
      refine zr_iconst (pc := 152) (v := (-1 : Int32)) h dX12_eventRead_152 (by decide) ?_
      obtain ⟨μ43, eμ43, hf⟩ := zBd_s hf
      refine zm_X12_234 (pc := 153) h gkc_267 ⟨by decide, by decide⟩ (cX12_laysEvent_ok eμ43) rfl (Nat.le_of_ble_eq_true rfl) dX12_eventRead_153 rfl ?_
      refine zr_goto (pc := 156) (tgt := 284) h dX12_eventRead_156 rfl ?_
      exact zr_weak h [true, false, false] (fX12_eventRead_n284_ok h hf)
  · have hf := hf.2 b48
    refine zr_aload_n (pc := 110) h dX12_eventRead_110 rfl rfl ?_
    refine zr_iload_n (pc := 111) h dX12_eventRead_111 rfl rfl ?_
    refine zr_iconst (pc := 112) (v := (0 : Int32)) h dX12_eventRead_112 (by decide) ?_
    refine zr_aload_n (pc := 113) h dX12_eventRead_113 rfl rfl ?_
    refine zr_aload_n (pc := 114) h dX12_eventRead_114 rfl rfl ?_
    refine zf_X12_17 (pc := 115) h gkc_267 dX12_eventRead_115 ?_
    refine zr_iconst (pc := 118) (v := (0 : Int32)) h dX12_eventRead_118 (by decide) ?_
    obtain ⟨x45, μ46, ex45, hf⟩ := zBp_s hf
    refine zm_X12_182 (pc := 119) h gkc_267 ⟨by decide, by decide⟩ (cX12_oneRead_ok gkc_269 ex45) rfl (Nat.le_of_ble_eq_true rfl) dX12_eventRead_119 rfl ?_
    refine zr_iconst (pc := 122) (v := (-1 : Int32)) h dX12_eventRead_122 (by decide) ?_
    refine zr_iconst (pc := 123) (v := (-1 : Int32)) h dX12_eventRead_123 (by decide) ?_
    obtain ⟨μ47, eμ47, hf⟩ := zBd_s hf
    refine zm_X12_234 (pc := 124) h gkc_267 ⟨by decide, by decide⟩ (cX12_laysEvent_ok eμ47) rfl (Nat.le_of_ble_eq_true rfl) dX12_eventRead_124 rfl ?_
    refine zr_goto (pc := 127) (tgt := 284) h dX12_eventRead_127 rfl ?_
    exact zr_weak h [true, false, false] (fX12_eventRead_n284_ok h hf)

set_option maxRecDepth 100000 in
set_option maxHeartbeats 4000000 in
theorem fX12_eventRead_n84_ok {l : Launch} {g : gG} {ν : gM} {K : gKt} (h : gR l g cX12_eventRead RX12 3 none (gRm 7 154) none ν K) {y1 : Int32} {y2 : Int32} {μ : gM} (hf : fX12_eventRead_n84 y1 y2 μ = some ν) : K 84 [some (.ref (g.1 + 267)), some (.int y1), some (.int y2)] [] μ := by
  unfold fX12_eventRead_n84 at hf
  refine zr_aload_n (pc := 84) h dX12_eventRead_84 rfl rfl ?_
  obtain ⟨x8, ex8, hf⟩ := zBd_s hf
  refine zm_X12_110 (pc := 85) h gkc_267 ⟨by decide, by decide⟩ (cX12_isFine_ok ex8) rfl (Nat.le_of_ble_eq_true rfl) dX12_eventRead_85 rfl ?_
  have hf := zIf_s hf
  refine zr_if_eq (pc := 88) (tgt := 100) h dX12_eventRead_88 rfl (fun b51 => ?_) (fun b51 => ?_)
  · have hf := hf.1 b51
    exact zr_weak h [true, true, false] (fX12_eventRead_n100_ok h hf)
  · have hf := hf.2 b51
    refine zr_aload_n (pc := 91) h dX12_eventRead_91 rfl rfl ?_
    refine zf_X12_24 (pc := 92) h gkc_267 dX12_eventRead_92 ?_
    refine zr_iconst (pc := 95) (v := (5 : Int32)) h dX12_eventRead_95 (by decide) ?_
    refine zr_iload_n (pc := 96) h dX12_eventRead_96 rfl rfl ?_
    refine zr_imul (pc := 97) h dX12_eventRead_97 ?_
    refine zr_iload_n (pc := 98) h dX12_eventRead_98 rfl rfl ?_
    obtain ⟨q49, hf⟩ := zCk_s hf
    refine zr_iast (pc := 99) h gkc_271 q49 rfl dX12_eventRead_99 ?_
    refine zr_mu h (fun μ50 eμ50 => ?_)
    have hf := zLt_s eμ50 hf
    exact zr_weak h [true, true, false] (fX12_eventRead_n100_ok h hf)

set_option maxRecDepth 100000 in
set_option maxHeartbeats 4000000 in
theorem fX12_eventRead_n29_ok {l : Launch} {g : gG} {ν : gM} {K : gKt} (h : gR l g cX12_eventRead RX12 3 none (gRm 7 154) none ν K) {y1 : Int32} {μ : gM} (hf : fX12_eventRead_n29 y1 μ = some ν) : K 29 [some (.ref (g.1 + 267)), some (.int y1), none] [] μ := by
  unfold fX12_eventRead_n29 at hf
  refine zr_aload_n (pc := 29) h dX12_eventRead_29 rfl rfl ?_
  obtain ⟨x3, ex3, hf⟩ := zBd_s hf
  refine zm_X12_110 (pc := 30) h gkc_267 ⟨by decide, by decide⟩ (cX12_isFine_ok ex3) rfl (Nat.le_of_ble_eq_true rfl) dX12_eventRead_30 rfl ?_
  have hf := zIf_s hf
  refine zr_if_ne (pc := 33) (tgt := 37) h dX12_eventRead_33 rfl (fun b57 => ?_) (fun b57 => ?_)
  · have hf := hf.2 b57
    refine zr_aload_n (pc := 37) h dX12_eventRead_37 rfl rfl ?_
    obtain ⟨μ4, eμ4, hf⟩ := zBd_s hf
    refine zm_X12_139 (pc := 38) h gkc_267 ⟨by decide, by decide⟩ (cX12_pass_ok eμ4) rfl (Nat.le_of_ble_eq_true rfl) dX12_eventRead_38 rfl ?_
    refine zr_aload_n (pc := 41) h dX12_eventRead_41 rfl rfl ?_
    refine zr_iconst (pc := 42) (v := (0 : Int32)) h dX12_eventRead_42 (by decide) ?_
    refine zr_sipush (pc := 43) (v := (9999 : Int32)) h dX12_eventRead_43 (by decide) ?_
    obtain ⟨x5, μ6, ex5, hf⟩ := zBp_s hf
    refine zm_X12_174 (pc := 46) h gkc_267 ⟨by decide, by decide⟩ (cX12_number_ok ex5) rfl (Nat.le_of_ble_eq_true rfl) dX12_eventRead_46 rfl ?_
    refine zr_istore_n (pc := 49) h dX12_eventRead_49 rfl (by decide) rfl ?_
    refine zr_aload_n (pc := 50) h dX12_eventRead_50 rfl rfl ?_
    obtain ⟨x7, ex7, hf⟩ := zBd_s hf
    refine zm_X12_110 (pc := 51) h gkc_267 ⟨by decide, by decide⟩ (cX12_isFine_ok ex7) rfl (Nat.le_of_ble_eq_true rfl) dX12_eventRead_51 rfl ?_
    have hf := zIf_s hf
    refine zr_if_eq (pc := 54) (tgt := 84) h dX12_eventRead_54 rfl (fun b56 => ?_) (fun b56 => ?_)
    · have hf := hf.1 b56
      exact zr_weak h [true, true, true] (fX12_eventRead_n84_ok h hf)
    · have hf := hf.2 b56
      refine zr_iload_n (pc := 57) h dX12_eventRead_57 rfl rfl ?_
      have hf := zIf_s hf
      refine zr_if_le (pc := 58) (tgt := 84) h dX12_eventRead_58 rfl (fun b55 => ?_) (fun b55 => ?_)
      · have hf := hf.1 b55
        exact zr_weak h [true, true, true] (fX12_eventRead_n84_ok h hf)
      · have hf := hf.2 b55
        refine zr_iload_n (pc := 61) h dX12_eventRead_61 rfl rfl ?_
        refine zr_aload_n (pc := 62) h dX12_eventRead_62 rfl rfl ?_
        refine zf_X12_24 (pc := 63) h gkc_267 dX12_eventRead_63 ?_
        refine zr_iconst (pc := 66) (v := (5 : Int32)) h dX12_eventRead_66 (by decide) ?_
        refine zr_iload_n (pc := 67) h dX12_eventRead_67 rfl rfl ?_
        refine zr_imul (pc := 68) h dX12_eventRead_68 ?_
        refine zr_iconst (pc := 69) (v := (5 : Int32)) h dX12_eventRead_69 (by decide) ?_
        refine zr_isub (pc := 70) h dX12_eventRead_70 ?_
        obtain ⟨q52, hf⟩ := zCk_s hf
        refine zr_iald (pc := 71) h gkc_271 q52 rfl dX12_eventRead_71 ?_
        have hf := zIf_s hf
        refine zr_icmp_ge (pc := 72) (tgt := 84) h dX12_eventRead_72 rfl (fun b54 => ?_) (fun b54 => ?_)
        · have hf := hf.1 b54
          exact zr_weak h [true, true, true] (fX12_eventRead_n84_ok h hf)
        · have hf := hf.2 b54
          refine zr_aload_n (pc := 75) h dX12_eventRead_75 rfl rfl ?_
          refine zr_iconst (pc := 76) (v := (4 : Int32)) h dX12_eventRead_76 (by decide) ?_
          refine zr_aload_n (pc := 77) h dX12_eventRead_77 rfl rfl ?_
          refine zf_X12_148 (pc := 78) h gkc_267 dX12_eventRead_78 ?_
          obtain ⟨μ53, eμ53, hf⟩ := zBd_s hf
          refine zm_X12_106 (pc := 81) h gkc_267 ⟨by decide, by decide⟩ (cX12_fail_ok eμ53) rfl (Nat.le_of_ble_eq_true rfl) dX12_eventRead_81 rfl ?_
          exact zr_weak h [true, true, true] (fX12_eventRead_n84_ok h hf)
  · have hf := hf.1 b57
    exact zr_vret (pc := 36) h dX12_eventRead_36 rfl (zRv hf)

set_option maxRecDepth 100000 in
set_option maxHeartbeats 4000000 in
theorem fX12_eventRead_n13_ok {l : Launch} {g : gG} {ν : gM} {K : gKt} (h : gR l g cX12_eventRead RX12 3 none (gRm 7 154) none ν K) {y1 : Int32} {μ : gM} (hf : fX12_eventRead_n13 y1 μ = some ν) : K 13 [some (.ref (g.1 + 267)), some (.int y1), none] [] μ := by
  unfold fX12_eventRead_n13 at hf
  refine zr_iload_n (pc := 13) h dX12_eventRead_13 rfl rfl ?_
  refine zr_bipush (pc := 14) (v := (20 : Int32)) h dX12_eventRead_14 (by decide) ?_
  have hf := zIf_s hf
  refine zr_icmp_ne (pc := 16) (tgt := 29) h dX12_eventRead_16 rfl (fun b61 => ?_) (fun b61 => ?_)
  · have hf := hf.2 b61
    exact zr_weak h [true, true, false] (fX12_eventRead_n29_ok h hf)
  · have hf := hf.1 b61
    refine zr_aload_n (pc := 19) h dX12_eventRead_19 rfl rfl ?_
    refine zr_bipush (pc := 20) (v := (6 : Int32)) h dX12_eventRead_20 (by decide) ?_
    refine zr_aload_n (pc := 22) h dX12_eventRead_22 rfl rfl ?_
    obtain ⟨x58, μ59, ex58, hf⟩ := zBp_s hf
    refine zm_X12_102 (pc := 23) h gkc_267 ⟨by decide, by decide⟩ (cX12_next_ok ex58) rfl (Nat.le_of_ble_eq_true rfl) dX12_eventRead_23 rfl ?_
    obtain ⟨μ60, eμ60, hf⟩ := zBd_s hf
    refine zm_X12_106 (pc := 26) h gkc_267 ⟨by decide, by decide⟩ (cX12_fail_ok eμ60) rfl (Nat.le_of_ble_eq_true rfl) dX12_eventRead_26 rfl ?_
    exact zr_weak h [true, true, false] (fX12_eventRead_n29_ok h hf)

set_option maxRecDepth 100000 in
set_option maxHeartbeats 4000000 in
theorem cX12_eventRead_ok {l : Launch} {g : gG} {a1 : Int32} {μ : gM} {ν : gM} (hf : fX12_eventRead a1 μ = some ν) : gMet l g yX12_eventRead cX12_eventRead 3 none 7 154 [.ref (g.1 + 267), .int a1] μ none ν := by
  refine gMet_of (gIni [.ref (g.1 + 267), .int a1] ++ List.replicate 1 none) (by decide) (gIni_ok _ _) (Nat.le_of_ble_eq_true rfl) (fun K h => ?_)
  show K 0 [some (.ref (g.1 + 267)), some (.int a1), none] [] μ
  unfold fX12_eventRead at hf
  refine zr_aload_n (pc := 0) h dX12_eventRead_0 rfl rfl ?_
  refine zr_bipush (pc := 1) (v := (52 : Int32)) h dX12_eventRead_1 (by decide) ?_
  obtain ⟨x1, μ2, ex1, hf⟩ := zBp_s hf
  refine zm_X12_136 (pc := 3) h gkc_267 ⟨by decide, by decide⟩ (cX12_isWord_ok ex1) rfl (Nat.le_of_ble_eq_true rfl) dX12_eventRead_3 rfl ?_
  have hf := zIf_s hf
  refine zr_if_ne (pc := 6) (tgt := 13) h dX12_eventRead_6 rfl (fun b63 => ?_) (fun b63 => ?_)
  · have hf := hf.2 b63
    exact zr_weak h [true, true, false] (fX12_eventRead_n13_ok h hf)
  · have hf := hf.1 b63
    refine zr_aload_n (pc := 9) h dX12_eventRead_9 rfl rfl ?_
    obtain ⟨μ62, eμ62, hf⟩ := zBd_s hf
    refine zm_X12_121 (pc := 10) h gkc_267 ⟨by decide, by decide⟩ (cX12_unlike_ok eμ62) rfl (Nat.le_of_ble_eq_true rfl) dX12_eventRead_10 rfl ?_
    exact zr_weak h [true, true, false] (fX12_eventRead_n13_ok h hf)

set_option maxRecDepth 100000 in
set_option maxHeartbeats 4000000 in
theorem fX12_putsTo_l2_ok {l : Launch} {g : gG} {ν : gM} {K : gKt} (h : gR l g cX12_putsTo RX12 3 none (gRm 0 0) none ν K) : ∀ (n : Nat) (y1 : Int32) (y2 : Int32) (μ : gM), fX12_putsTo_l2 n y1 y2 μ = some ν → K 2 [some (.ref (g.1 + 267)), some (.int y1), some (.int y2)] [] μ := by
  intro n
  induction n with
  | zero =>
    intro y1 y2 μ hf
    cases (show (none : Option gM) = some _ from hf)
  | succ n ih =>
    intro y1 y2 μ hf
    unfold fX12_putsTo_l2 at hf
    refine zr_iload_n (pc := 2) h dX12_putsTo_2 rfl rfl ?_
    refine zr_sipush (pc := 3) (v := (490 : Int32)) h dX12_putsTo_3 (by decide) ?_
    have hf := zIf_s hf
    refine zr_icmp_ge (pc := 6) (tgt := 33) h dX12_putsTo_6 rfl (fun b5 => ?_) (fun b5 => ?_)
    · have hf := hf.1 b5
      exact zr_vret (pc := 33) h dX12_putsTo_33 rfl (zRv hf)
    · have hf := hf.2 b5
      refine zr_aload_n (pc := 9) h dX12_putsTo_9 rfl rfl ?_
      refine zf_X12_30 (pc := 10) h gkc_267 dX12_putsTo_10 ?_
      refine zr_sipush (pc := 13) (v := (490 : Int32)) h dX12_putsTo_13 (by decide) ?_
      refine zr_iload_n (pc := 16) h dX12_putsTo_16 rfl rfl ?_
      refine zr_imul (pc := 17) h dX12_putsTo_17 ?_
      refine zr_iload_n (pc := 18) h dX12_putsTo_18 rfl rfl ?_
      refine zr_iadd (pc := 19) h dX12_putsTo_19 ?_
      refine zr_aload_n (pc := 20) h dX12_putsTo_20 rfl rfl ?_
      refine zf_X12_27 (pc := 21) h gkc_267 dX12_putsTo_21 ?_
      refine zr_iload_n (pc := 24) h dX12_putsTo_24 rfl rfl ?_
      obtain ⟨q1, hf⟩ := zCk_s hf
      refine zr_iald (pc := 25) h gkc_272 q1 rfl dX12_putsTo_25 ?_
      obtain ⟨q2, hf⟩ := zCk_s hf
      refine zr_iast (pc := 26) h gkc_273 q2 rfl dX12_putsTo_26 ?_
      refine zr_mu h (fun μ3 eμ3 => ?_)
      have hf := zLt_s eμ3 hf
      refine zr_iincx (pc := 27) h dX12_putsTo_27 rfl (by decide) rfl (c := (1 : Int32)) (by decide) (fun x4 ex4 => ?_)
      have hf := zLt_s ex4 hf
      refine zr_goto (pc := 30) (tgt := 2) h dX12_putsTo_30 rfl ?_
      exact zr_weak h [true, true, true] (ih _ _ _ hf)

set_option maxRecDepth 100000 in
set_option maxHeartbeats 4000000 in
theorem cX12_putsTo_ok {l : Launch} {g : gG} {a1 : Int32} {μ : gM} {ν : gM} (hf : fX12_putsTo a1 μ = some ν) : gMet l g yX12_putsTo cX12_putsTo 3 none 0 0 [.ref (g.1 + 267), .int a1] μ none ν := by
  refine gMet_of (gIni [.ref (g.1 + 267), .int a1] ++ List.replicate 1 none) (by decide) (gIni_ok _ _) (Nat.le_of_ble_eq_true rfl) (fun K h => ?_)
  show K 0 [some (.ref (g.1 + 267)), some (.int a1), none] [] μ
  unfold fX12_putsTo at hf
  refine zr_iconst (pc := 0) (v := (0 : Int32)) h dX12_putsTo_0 (by decide) ?_
  refine zr_istore_n (pc := 1) h dX12_putsTo_1 rfl (by decide) rfl ?_
  exact zr_weak h [true, true, true] (fX12_putsTo_l2_ok h 100000 _ _ _ hf)

set_option maxRecDepth 100000 in
set_option maxHeartbeats 4000000 in
theorem fX12_keepsAct_n52_ok {l : Launch} {g : gG} {ν : gM} {K : gKt} (h : gR l g cX12_keepsAct RX12 2 none (gRm 1 22) none ν K) {μ : gM} (hf : fX12_keepsAct_n52 μ = some ν) : K 52 [some (.ref (g.1 + 267)), none] [] μ := by
  unfold fX12_keepsAct_n52 at hf
  refine zr_aload_n (pc := 52) h dX12_keepsAct_52 rfl rfl ?_
  refine zr_aload_n (pc := 53) h dX12_keepsAct_53 rfl rfl ?_
  refine zf_X12_228 (pc := 54) h gkc_267 dX12_keepsAct_54 ?_
  obtain ⟨μ1, eμ1, hf⟩ := zBd_s hf
  refine zm_X12_250 (pc := 57) h gkc_267 ⟨by decide, by decide⟩ (cX12_putsTo_ok eμ1) rfl (Nat.le_of_ble_eq_true rfl) dX12_keepsAct_57 rfl ?_
  refine zr_aload_n (pc := 60) h dX12_keepsAct_60 rfl rfl ?_
  refine zr_dup (pc := 61) h dX12_keepsAct_61 rfl ?_
  refine zf_X12_228 (pc := 62) h gkc_267 dX12_keepsAct_62 ?_
  refine zr_iconst (pc := 65) (v := (1 : Int32)) h dX12_keepsAct_65 (by decide) ?_
  refine zr_iadd (pc := 66) h dX12_keepsAct_66 ?_
  refine zp_X12_228 (pc := 67) h gkc_267 dX12_keepsAct_67 ?_
  refine zr_mu h (fun μ2 eμ2 => ?_)
  have hf := zLt_s eμ2 hf
  exact zr_vret (pc := 70) h dX12_keepsAct_70 rfl (zRv hf)

set_option maxRecDepth 100000 in
set_option maxHeartbeats 4000000 in
theorem fX12_keepsAct_l13_ok {l : Launch} {g : gG} {ν : gM} {K : gKt} (h : gR l g cX12_keepsAct RX12 2 none (gRm 1 22) none ν K) : ∀ (n : Nat) (y1 : Int32) (μ : gM), fX12_keepsAct_l13 n y1 μ = some ν → K 13 [some (.ref (g.1 + 267)), some (.int y1)] [] μ := by
  intro n
  induction n with
  | zero =>
    intro y1 μ hf
    cases (show (none : Option gM) = some _ from hf)
  | succ n ih =>
    intro y1 μ hf
    unfold fX12_keepsAct_l13 at hf
    refine zr_iload_n (pc := 13) h dX12_keepsAct_13 rfl rfl ?_
    refine zr_sipush (pc := 14) (v := (5880 : Int32)) h dX12_keepsAct_14 (by decide) ?_
    have hf := zIf_s hf
    refine zr_icmp_ge (pc := 17) (tgt := 42) h dX12_keepsAct_17 rfl (fun b8 => ?_) (fun b8 => ?_)
    · have hf := hf.1 b8
      refine zr_aload_n (pc := 42) h dX12_keepsAct_42 rfl rfl ?_
      refine zr_dup (pc := 43) h dX12_keepsAct_43 rfl ?_
      refine zf_X12_228 (pc := 44) h gkc_267 dX12_keepsAct_44 ?_
      refine zr_iconst (pc := 47) (v := (1 : Int32)) h dX12_keepsAct_47 (by decide) ?_
      refine zr_isub (pc := 48) h dX12_keepsAct_48 ?_
      refine zp_X12_228 (pc := 49) h gkc_267 dX12_keepsAct_49 ?_
      refine zr_mu h (fun μ3 eμ3 => ?_)
      have hf := zLt_s eμ3 hf
      exact zr_weak h [true, false] (fX12_keepsAct_n52_ok h hf)
    · have hf := hf.2 b8
      refine zr_aload_n (pc := 20) h dX12_keepsAct_20 rfl rfl ?_
      refine zf_X12_30 (pc := 21) h gkc_267 dX12_keepsAct_21 ?_
      refine zr_iload_n (pc := 24) h dX12_keepsAct_24 rfl rfl ?_
      refine zr_sipush (pc := 25) (v := (490 : Int32)) h dX12_keepsAct_25 (by decide) ?_
      refine zr_isub (pc := 28) h dX12_keepsAct_28 ?_
      refine zr_aload_n (pc := 29) h dX12_keepsAct_29 rfl rfl ?_
      refine zf_X12_30 (pc := 30) h gkc_267 dX12_keepsAct_30 ?_
      refine zr_iload_n (pc := 33) h dX12_keepsAct_33 rfl rfl ?_
      obtain ⟨q4, hf⟩ := zCk_s hf
      refine zr_iald (pc := 34) h gkc_273 q4 rfl dX12_keepsAct_34 ?_
      obtain ⟨q5, hf⟩ := zCk_s hf
      refine zr_iast (pc := 35) h gkc_273 q5 rfl dX12_keepsAct_35 ?_
      refine zr_mu h (fun μ6 eμ6 => ?_)
      have hf := zLt_s eμ6 hf
      refine zr_iincx (pc := 36) h dX12_keepsAct_36 rfl (by decide) rfl (c := (1 : Int32)) (by decide) (fun x7 ex7 => ?_)
      have hf := zLt_s ex7 hf
      refine zr_goto (pc := 39) (tgt := 13) h dX12_keepsAct_39 rfl ?_
      exact zr_weak h [true, true] (ih _ _ hf)

set_option maxRecDepth 100000 in
set_option maxHeartbeats 4000000 in
theorem cX12_keepsAct_ok {l : Launch} {g : gG} {μ : gM} {ν : gM} (hf : fX12_keepsAct μ = some ν) : gMet l g yX12_keepsAct cX12_keepsAct 2 none 1 22 [.ref (g.1 + 267)] μ none ν := by
  refine gMet_of (gIni [.ref (g.1 + 267)] ++ List.replicate 1 none) (by decide) (gIni_ok _ _) (Nat.le_of_ble_eq_true rfl) (fun K h => ?_)
  show K 0 [some (.ref (g.1 + 267)), none] [] μ
  unfold fX12_keepsAct at hf
  refine zr_aload_n (pc := 0) h dX12_keepsAct_0 rfl rfl ?_
  refine zf_X12_228 (pc := 1) h gkc_267 dX12_keepsAct_1 ?_
  refine zr_bipush (pc := 4) (v := (12 : Int32)) h dX12_keepsAct_4 (by decide) ?_
  have hf := zIf_s hf
  refine zr_icmp_ne (pc := 6) (tgt := 52) h dX12_keepsAct_6 rfl (fun b9 => ?_) (fun b9 => ?_)
  · have hf := hf.2 b9
    exact zr_weak h [true, false] (fX12_keepsAct_n52_ok h hf)
  · have hf := hf.1 b9
    refine zr_sipush (pc := 9) (v := (490 : Int32)) h dX12_keepsAct_9 (by decide) ?_
    refine zr_istore_n (pc := 12) h dX12_keepsAct_12 rfl (by decide) rfl ?_
    exact zr_weak h [true, true] (fX12_keepsAct_l13_ok h 100000 _ _ hf)

set_option maxRecDepth 100000 in
set_option maxHeartbeats 4000000 in
theorem fX12_plan_l74_ok {l : Launch} {g : gG} {r : Int32} {ν : gM} {K : gKt} (h : gR l g cX12_plan RX12 3 (some .int) (gRm 8 176) (some (.int r)) ν K) : ∀ (n : Nat) (y1 : Int32) (y2 : Int32) (μ : gM), fX12_plan_l74 n y1 y2 μ = some (r, ν) → K 74 [some (.ref (g.1 + 267)), some (.int y1), some (.int y2)] [] μ := by
  intro n
  induction n with
  | zero =>
    intro y1 y2 μ hf
    cases (show (none : Option (Int32 × gM)) = some _ from hf)
  | succ n ih =>
    intro y1 y2 μ hf
    unfold fX12_plan_l74 at hf
    refine zr_iload_n (pc := 74) h dX12_plan_74 rfl rfl ?_
    refine zr_iconst (pc := 75) (v := (5 : Int32)) h dX12_plan_75 (by decide) ?_
    refine zr_iload_n (pc := 76) h dX12_plan_76 rfl rfl ?_
    refine zr_imul (pc := 77) h dX12_plan_77 ?_
    have hf := zIf_s hf
    refine zr_icmp_ge (pc := 78) (tgt := 103) h dX12_plan_78 rfl (fun b12 => ?_) (fun b12 => ?_)
    · have hf := hf.1 b12
      refine zr_iload_n (pc := 103) h dX12_plan_103 rfl rfl ?_
      exact zr_iret (pc := 104) h dX12_plan_104 (zRp hf).1 (zRp hf).2
    · have hf := hf.2 b12
      refine zr_aload_n (pc := 81) h dX12_plan_81 rfl rfl ?_
      refine zf_X12_27 (pc := 82) h gkc_267 dX12_plan_82 ?_
      refine zr_sipush (pc := 85) (v := (145 : Int32)) h dX12_plan_85 (by decide) ?_
      refine zr_iload_n (pc := 88) h dX12_plan_88 rfl rfl ?_
      refine zr_iadd (pc := 89) h dX12_plan_89 ?_
      refine zr_aload_n (pc := 90) h dX12_plan_90 rfl rfl ?_
      refine zf_X12_24 (pc := 91) h gkc_267 dX12_plan_91 ?_
      refine zr_iload_n (pc := 94) h dX12_plan_94 rfl rfl ?_
      obtain ⟨q8, hf⟩ := zCk_s hf
      refine zr_iald (pc := 95) h gkc_271 q8 rfl dX12_plan_95 ?_
      obtain ⟨q9, hf⟩ := zCk_s hf
      refine zr_iast (pc := 96) h gkc_272 q9 rfl dX12_plan_96 ?_
      refine zr_mu h (fun μ10 eμ10 => ?_)
      have hf := zLt_s eμ10 hf
      refine zr_iincx (pc := 97) h dX12_plan_97 rfl (by decide) rfl (c := (1 : Int32)) (by decide) (fun x11 ex11 => ?_)
      have hf := zLt_s ex11 hf
      refine zr_goto (pc := 100) (tgt := 74) h dX12_plan_100 rfl ?_
      exact zr_weak h [true, true, true] (ih _ _ _ hf)

set_option maxRecDepth 100000 in
set_option maxHeartbeats 4000000 in
theorem fX12_plan_n51_ok {l : Launch} {g : gG} {r : Int32} {ν : gM} {K : gKt} (h : gR l g cX12_plan RX12 3 (some .int) (gRm 8 176) (some (.int r)) ν K) {y1 : Int32} {μ : gM} (hf : fX12_plan_n51 y1 μ = some (r, ν)) : K 51 [some (.ref (g.1 + 267)), some (.int y1), none] [] μ := by
  unfold fX12_plan_n51 at hf
  refine zr_aload_n (pc := 51) h dX12_plan_51 rfl rfl ?_
  obtain ⟨x4, μ5, ex4, hf⟩ := zBp_s hf
  refine zm_X12_221 (pc := 52) h gkc_267 ⟨by decide, by decide⟩ (cX12_isRead_ok ex4) rfl (Nat.le_of_ble_eq_true rfl) dX12_plan_52 rfl ?_
  have hf := zIf_s hf
  refine zr_if_ne (pc := 55) (tgt := 60) h dX12_plan_55 rfl (fun b13 => ?_) (fun b13 => ?_)
  · have hf := hf.2 b13
    refine zr_aload_n (pc := 60) h dX12_plan_60 rfl rfl ?_
    obtain ⟨μ6, eμ6, hf⟩ := zBd_s hf
    refine zm_X12_247 (pc := 61) h gkc_267 ⟨by decide, by decide⟩ (cX12_keepsAct_ok eμ6) rfl (Nat.le_of_ble_eq_true rfl) dX12_plan_61 rfl ?_
    refine zr_aload_n (pc := 64) h dX12_plan_64 rfl rfl ?_
    refine zf_X12_27 (pc := 65) h gkc_267 dX12_plan_65 ?_
    refine zr_bipush (pc := 68) (v := (8 : Int32)) h dX12_plan_68 (by decide) ?_
    refine zr_iload_n (pc := 70) h dX12_plan_70 rfl rfl ?_
    refine zr_iast (pc := 71) (q := 8) h gkc_272 rfl (by decide) dX12_plan_71 ?_
    refine zr_mu h (fun μ7 eμ7 => ?_)
    have hf := zLt_s eμ7 hf
    refine zr_iconst (pc := 72) (v := (0 : Int32)) h dX12_plan_72 (by decide) ?_
    refine zr_istore_n (pc := 73) h dX12_plan_73 rfl (by decide) rfl ?_
    exact zr_weak h [true, true, true] (fX12_plan_l74_ok h 100000 _ _ _ hf)
  · have hf := hf.1 b13
    refine zr_iconst (pc := 58) (v := (-1 : Int32)) h dX12_plan_58 (by decide) ?_
    exact zr_iret (pc := 59) h dX12_plan_59 (zRp hf).1 (zRp hf).2

set_option maxRecDepth 100000 in
set_option maxHeartbeats 4000000 in
theorem fX12_plan_l26_ok {l : Launch} {g : gG} {r : Int32} {ν : gM} {K : gKt} (h : gR l g cX12_plan RX12 3 (some .int) (gRm 8 176) (some (.int r)) ν K) : ∀ (n : Nat) (y1 : Int32) (μ : gM), fX12_plan_l26 n y1 μ = some (r, ν) → K 26 [some (.ref (g.1 + 267)), some (.int y1), none] [] μ := by
  intro n
  induction n with
  | zero =>
    intro y1 μ hf
    cases (show (none : Option (Int32 × gM)) = some _ from hf)
  | succ n ih =>
    intro y1 μ hf
    unfold fX12_plan_l26 at hf
    refine zr_aload_n (pc := 26) h dX12_plan_26 rfl rfl ?_
    obtain ⟨x3, ex3, hf⟩ := zBd_s hf
    refine zm_X12_110 (pc := 27) h gkc_267 ⟨by decide, by decide⟩ (cX12_isFine_ok ex3) rfl (Nat.le_of_ble_eq_true rfl) dX12_plan_27 rfl ?_
    have hf := zIf_s hf
    refine zr_if_eq (pc := 30) (tgt := 51) h dX12_plan_30 rfl (fun b19 => ?_) (fun b19 => ?_)
    · have hf := hf.1 b19
      exact zr_weak h [true, true, false] (fX12_plan_n51_ok h hf)
    · have hf := hf.2 b19
      refine zr_aload_n (pc := 33) h dX12_plan_33 rfl rfl ?_
      obtain ⟨x14, μ15, ex14, hf⟩ := zBp_s hf
      refine zm_X12_114 (pc := 34) h gkc_267 ⟨by decide, by decide⟩ (cX12_isOver_ok ex14) rfl (Nat.le_of_ble_eq_true rfl) dX12_plan_34 rfl ?_
      have hf := zIf_s hf
      refine zr_if_ne (pc := 37) (tgt := 51) h dX12_plan_37 rfl (fun b18 => ?_) (fun b18 => ?_)
      · have hf := hf.2 b18
        exact zr_weak h [true, true, false] (fX12_plan_n51_ok h hf)
      · have hf := hf.1 b18
        refine zr_aload_n (pc := 40) h dX12_plan_40 rfl rfl ?_
        refine zr_iload_n (pc := 41) h dX12_plan_41 rfl rfl ?_
        obtain ⟨μ16, eμ16, hf⟩ := zBd_s hf
        refine zm_X12_244 (pc := 42) h gkc_267 ⟨by decide, by decide⟩ (cX12_eventRead_ok eμ16) rfl (Nat.le_of_ble_eq_true rfl) dX12_plan_42 rfl ?_
        refine zr_iincx (pc := 45) h dX12_plan_45 rfl (by decide) rfl (c := (1 : Int32)) (by decide) (fun x17 ex17 => ?_)
        have hf := zLt_s ex17 hf
        refine zr_goto (pc := 48) (tgt := 26) h dX12_plan_48 rfl ?_
        exact zr_weak h [true, true, false] (ih _ _ hf)

set_option maxRecDepth 100000 in
set_option maxHeartbeats 4000000 in
theorem cX12_plan_ok {l : Launch} {g : gG} {μ : gM} {r : Int32} {ν : gM} (hf : fX12_plan μ = some (r, ν)) : gMet l g yX12_plan cX12_plan 3 (some .int) 8 176 [.ref (g.1 + 267)] μ (some (.int r)) ν := by
  refine gMet_of (gIni [.ref (g.1 + 267)] ++ List.replicate 2 none) (by decide) (gIni_ok _ _) (Nat.le_of_ble_eq_true rfl) (fun K h => ?_)
  show K 0 [some (.ref (g.1 + 267)), none, none] [] μ
  unfold fX12_plan at hf
  refine zr_aload_n (pc := 0) h dX12_plan_0 rfl rfl ?_
  refine zr_iconst (pc := 1) (v := (0 : Int32)) h dX12_plan_1 (by decide) ?_
  refine zp_X12_46 (pc := 2) h gkc_267 dX12_plan_2 ?_
  refine zr_mu h (fun μ1 eμ1 => ?_)
  have hf := zLt_s eμ1 hf
  refine zr_aload_n (pc := 5) h dX12_plan_5 rfl rfl ?_
  refine zf_X12_224 (pc := 6) h gkc_267 dX12_plan_6 ?_
  have hf := zIf_s hf
  refine zr_if_ne (pc := 9) (tgt := 20) h dX12_plan_9 rfl (fun b21 => ?_) (fun b21 => ?_)
  · have hf := hf.2 b21
    refine zr_aload_n (pc := 20) h dX12_plan_20 rfl rfl ?_
    obtain ⟨μ2, eμ2, hf⟩ := zBd_s hf
    refine zm_X12_215 (pc := 21) h gkc_267 ⟨by decide, by decide⟩ (cX12_begins_ok eμ2) rfl (Nat.le_of_ble_eq_true rfl) dX12_plan_21 rfl ?_
    refine zr_iconst (pc := 24) (v := (0 : Int32)) h dX12_plan_24 (by decide) ?_
    refine zr_istore_n (pc := 25) h dX12_plan_25 rfl (by decide) rfl ?_
    exact zr_weak h [true, true, false] (fX12_plan_l26_ok h 100000 _ _ hf)
  · have hf := hf.1 b21
    refine zr_aload_n (pc := 12) h dX12_plan_12 rfl rfl ?_
    refine zr_iconst (pc := 13) (v := (0 : Int32)) h dX12_plan_13 (by decide) ?_
    refine zp_X12_49 (pc := 14) h gkc_267 dX12_plan_14 ?_
    refine zr_mu h (fun μ20 eμ20 => ?_)
    have hf := zLt_s eμ20 hf
    refine zr_bipush (pc := 17) (v := (-2 : Int32)) h dX12_plan_17 (by decide) ?_
    exact zr_iret (pc := 19) h dX12_plan_19 (zRp hf).1 (zRp hf).2

set_option maxRecDepth 100000 in
set_option maxHeartbeats 4000000 in
theorem fX12_takesFrom_l2_ok {l : Launch} {g : gG} {ν : gM} {K : gKt} (h : gR l g cX12_takesFrom RX12 3 none (gRm 0 0) none ν K) : ∀ (n : Nat) (y1 : Int32) (y2 : Int32) (μ : gM), fX12_takesFrom_l2 n y1 y2 μ = some ν → K 2 [some (.ref (g.1 + 267)), some (.int y1), some (.int y2)] [] μ := by
  intro n
  induction n with
  | zero =>
    intro y1 y2 μ hf
    cases (show (none : Option gM) = some _ from hf)
  | succ n ih =>
    intro y1 y2 μ hf
    unfold fX12_takesFrom_l2 at hf
    refine zr_iload_n (pc := 2) h dX12_takesFrom_2 rfl rfl ?_
    refine zr_sipush (pc := 3) (v := (490 : Int32)) h dX12_takesFrom_3 (by decide) ?_
    have hf := zIf_s hf
    refine zr_icmp_ge (pc := 6) (tgt := 33) h dX12_takesFrom_6 rfl (fun b5 => ?_) (fun b5 => ?_)
    · have hf := hf.1 b5
      exact zr_vret (pc := 33) h dX12_takesFrom_33 rfl (zRv hf)
    · have hf := hf.2 b5
      refine zr_aload_n (pc := 9) h dX12_takesFrom_9 rfl rfl ?_
      refine zf_X12_27 (pc := 10) h gkc_267 dX12_takesFrom_10 ?_
      refine zr_iload_n (pc := 13) h dX12_takesFrom_13 rfl rfl ?_
      refine zr_aload_n (pc := 14) h dX12_takesFrom_14 rfl rfl ?_
      refine zf_X12_30 (pc := 15) h gkc_267 dX12_takesFrom_15 ?_
      refine zr_sipush (pc := 18) (v := (490 : Int32)) h dX12_takesFrom_18 (by decide) ?_
      refine zr_iload_n (pc := 21) h dX12_takesFrom_21 rfl rfl ?_
      refine zr_imul (pc := 22) h dX12_takesFrom_22 ?_
      refine zr_iload_n (pc := 23) h dX12_takesFrom_23 rfl rfl ?_
      refine zr_iadd (pc := 24) h dX12_takesFrom_24 ?_
      obtain ⟨q1, hf⟩ := zCk_s hf
      refine zr_iald (pc := 25) h gkc_273 q1 rfl dX12_takesFrom_25 ?_
      obtain ⟨q2, hf⟩ := zCk_s hf
      refine zr_iast (pc := 26) h gkc_272 q2 rfl dX12_takesFrom_26 ?_
      refine zr_mu h (fun μ3 eμ3 => ?_)
      have hf := zLt_s eμ3 hf
      refine zr_iincx (pc := 27) h dX12_takesFrom_27 rfl (by decide) rfl (c := (1 : Int32)) (by decide) (fun x4 ex4 => ?_)
      have hf := zLt_s ex4 hf
      refine zr_goto (pc := 30) (tgt := 2) h dX12_takesFrom_30 rfl ?_
      exact zr_weak h [true, true, true] (ih _ _ _ hf)

set_option maxRecDepth 100000 in
set_option maxHeartbeats 4000000 in
theorem cX12_takesFrom_ok {l : Launch} {g : gG} {a1 : Int32} {μ : gM} {ν : gM} (hf : fX12_takesFrom a1 μ = some ν) : gMet l g yX12_takesFrom cX12_takesFrom 3 none 0 0 [.ref (g.1 + 267), .int a1] μ none ν := by
  refine gMet_of (gIni [.ref (g.1 + 267), .int a1] ++ List.replicate 1 none) (by decide) (gIni_ok _ _) (Nat.le_of_ble_eq_true rfl) (fun K h => ?_)
  show K 0 [some (.ref (g.1 + 267)), some (.int a1), none] [] μ
  unfold fX12_takesFrom at hf
  refine zr_iconst (pc := 0) (v := (0 : Int32)) h dX12_takesFrom_0 (by decide) ?_
  refine zr_istore_n (pc := 1) h dX12_takesFrom_1 rfl (by decide) rfl ?_
  exact zr_weak h [true, true, true] (fX12_takesFrom_l2_ok h 100000 _ _ _ hf)

set_option maxRecDepth 100000 in
set_option maxHeartbeats 4000000 in
theorem cX12_isUp_ok {l : Launch} {g : gG} {a1 : Int32} {μ : gM} {r : Int32} (hf : fX12_isUp a1 μ = some r) : gMet l g yX12_isUp cX12_isUp 2 (some .boolean) 1 21 [.ref (g.1 + 267), .int a1] μ (some (.int r)) μ := by
  refine gMet_of (gIni [.ref (g.1 + 267), .int a1] ++ List.replicate 0 none) (by decide) (gIni_ok _ _) (Nat.le_of_ble_eq_true rfl) (fun K h => ?_)
  show K 0 [some (.ref (g.1 + 267)), some (.int a1)] [] μ
  unfold fX12_isUp at hf
  refine zr_aload_n (pc := 0) h dX12_isUp_0 rfl rfl ?_
  refine zf_X12_27 (pc := 1) h gkc_267 dX12_isUp_1 ?_
  refine zr_iconst (pc := 4) (v := (1 : Int32)) h dX12_isUp_4 (by decide) ?_
  refine zr_iald (pc := 5) (q := 1) h gkc_272 rfl (by decide) dX12_isUp_5 ?_
  refine zr_iload_n (pc := 6) h dX12_isUp_6 rfl rfl ?_
  obtain ⟨x1, ex1, hf⟩ := zBd_s hf
  refine zm_X12_186 (pc := 7) h ⟨by decide, by decide⟩ (cX12_isOf_ok ex1) rfl (Nat.le_of_ble_eq_true rfl) dX12_isUp_7 rfl ?_
  obtain ⟨q2, hf⟩ := zCk_s hf
  exact zr_zret (pc := 10) h (zBoo q2) dX12_isUp_10 (zRi hf) rfl

set_option maxRecDepth 100000 in
set_option maxHeartbeats 4000000 in
theorem cX12_areTogether_ok {l : Launch} {g : gG} {a1 : Int32} {a2 : Int32} {μ : gM} {r : Int32} (hf : fX12_areTogether a1 a2 μ = some r) : gMet l g yX12_areTogether cX12_areTogether 3 (some .boolean) 1 21 [.ref (g.1 + 267), .int a1, .int a2] μ (some (.int r)) μ := by
  refine gMet_of (gIni [.ref (g.1 + 267), .int a1, .int a2] ++ List.replicate 0 none) (by decide) (gIni_ok _ _) (Nat.le_of_ble_eq_true rfl) (fun K h => ?_)
  show K 0 [some (.ref (g.1 + 267)), some (.int a1), some (.int a2)] [] μ
  unfold fX12_areTogether at hf
  refine zr_aload_n (pc := 0) h dX12_areTogether_0 rfl rfl ?_
  refine zf_X12_27 (pc := 1) h gkc_267 dX12_areTogether_1 ?_
  refine zr_iconst (pc := 4) (v := (3 : Int32)) h dX12_areTogether_4 (by decide) ?_
  refine zr_iald (pc := 5) (q := 3) h gkc_272 rfl (by decide) dX12_areTogether_5 ?_
  refine zr_iload_n (pc := 6) h dX12_areTogether_6 rfl rfl ?_
  obtain ⟨x1, ex1, hf⟩ := zBd_s hf
  refine zm_X12_186 (pc := 7) h ⟨by decide, by decide⟩ (cX12_isOf_ok ex1) rfl (Nat.le_of_ble_eq_true rfl) dX12_areTogether_7 rfl ?_
  refine zr_aload_n (pc := 10) h dX12_areTogether_10 rfl rfl ?_
  refine zf_X12_27 (pc := 11) h gkc_267 dX12_areTogether_11 ?_
  refine zr_iconst (pc := 14) (v := (3 : Int32)) h dX12_areTogether_14 (by decide) ?_
  refine zr_iald (pc := 15) (q := 3) h gkc_272 rfl (by decide) dX12_areTogether_15 ?_
  refine zr_iload_n (pc := 16) h dX12_areTogether_16 rfl rfl ?_
  obtain ⟨x2, ex2, hf⟩ := zBd_s hf
  refine zm_X12_186 (pc := 17) h ⟨by decide, by decide⟩ (cX12_isOf_ok ex2) rfl (Nat.le_of_ble_eq_true rfl) dX12_areTogether_17 rfl ?_
  have hf := zIf_s hf
  refine zr_icmp_ne (pc := 20) (tgt := 27) h dX12_areTogether_20 rfl (fun b3 => ?_) (fun b3 => ?_)
  · have hf := hf.2 b3
    refine zr_iconst (pc := 27) (v := (0 : Int32)) h dX12_areTogether_27 (by decide) ?_
    exact zr_zret (pc := 28) h rfl dX12_areTogether_28 (zRi hf) rfl
  · have hf := hf.1 b3
    refine zr_iconst (pc := 23) (v := (1 : Int32)) h dX12_areTogether_23 (by decide) ?_
    refine zr_goto (pc := 24) (tgt := 28) h dX12_areTogether_24 rfl ?_
    exact zr_zret (pc := 28) h rfl dX12_areTogether_28 (zRi hf) rfl

set_option maxRecDepth 100000 in
set_option maxHeartbeats 4000000 in
theorem cX12_doesHold_ok {l : Launch} {g : gG} {a1 : Int32} {a2 : Int32} {μ : gM} {r : Int32} (hf : fX12_doesHold a1 a2 μ = some r) : gMet l g yX12_doesHold cX12_doesHold 3 (some .boolean) 1 21 [.ref (g.1 + 267), .int a1, .int a2] μ (some (.int r)) μ := by
  refine gMet_of (gIni [.ref (g.1 + 267), .int a1, .int a2] ++ List.replicate 0 none) (by decide) (gIni_ok _ _) (Nat.le_of_ble_eq_true rfl) (fun K h => ?_)
  show K 0 [some (.ref (g.1 + 267)), some (.int a1), some (.int a2)] [] μ
  unfold fX12_doesHold at hf
  refine zr_aload_n (pc := 0) h dX12_doesHold_0 rfl rfl ?_
  refine zf_X12_27 (pc := 1) h gkc_267 dX12_doesHold_1 ?_
  refine zr_bipush (pc := 4) (v := (40 : Int32)) h dX12_doesHold_4 (by decide) ?_
  refine zr_iload_n (pc := 6) h dX12_doesHold_6 rfl rfl ?_
  refine zr_iload_n (pc := 7) h dX12_doesHold_7 rfl rfl ?_
  obtain ⟨x1, ex1, hf⟩ := zBd_s hf
  refine zm_X12_190 (pc := 8) h ⟨by decide, by decide⟩ (cX12_of_ok ex1) rfl (Nat.le_of_ble_eq_true rfl) dX12_doesHold_8 rfl ?_
  refine zr_iadd (pc := 11) h dX12_doesHold_11 ?_
  obtain ⟨q2, hf⟩ := zCk_s hf
  refine zr_iald (pc := 12) h gkc_272 q2 rfl dX12_doesHold_12 ?_
  refine zr_iconst (pc := 13) (v := (2 : Int32)) h dX12_doesHold_13 (by decide) ?_
  have hf := zIf_s hf
  refine zr_icmp_ne (pc := 14) (tgt := 21) h dX12_doesHold_14 rfl (fun b3 => ?_) (fun b3 => ?_)
  · have hf := hf.2 b3
    refine zr_iconst (pc := 21) (v := (0 : Int32)) h dX12_doesHold_21 (by decide) ?_
    exact zr_zret (pc := 22) h rfl dX12_doesHold_22 (zRi hf) rfl
  · have hf := hf.1 b3
    refine zr_iconst (pc := 17) (v := (1 : Int32)) h dX12_doesHold_17 (by decide) ?_
    refine zr_goto (pc := 18) (tgt := 22) h dX12_doesHold_18 rfl ?_
    exact zr_zret (pc := 22) h rfl dX12_doesHold_22 (zRi hf) rfl

set_option maxRecDepth 100000 in
set_option maxHeartbeats 4000000 in
theorem cX12_isStronger_ok {l : Launch} {g : gG} {a1 : Int32} {a2 : Int32} {a3 : Int32} {a4 : Int32} {μ : gM} {r : Int32} (hf : fX12_isStronger a1 a2 a3 a4 μ = some r) : gMet l g yX12_isStronger cX12_isStronger 4 (some .boolean) 0 0 [.int a1, .int a2, .int a3, .int a4] μ (some (.int r)) μ := by
  refine gMet_of (gIni [.int a1, .int a2, .int a3, .int a4] ++ List.replicate 0 none) (by decide) (gIni_ok _ _) (Nat.le_of_ble_eq_true rfl) (fun K h => ?_)
  show K 0 [some (.int a1), some (.int a2), some (.int a3), some (.int a4)] [] μ
  unfold fX12_isStronger at hf
  refine zr_iload_n (pc := 0) h dX12_isStronger_0 rfl rfl ?_
  refine zr_iload_n (pc := 1) h dX12_isStronger_1 rfl rfl ?_
  have hf := zIf_s hf
  refine zr_icmp_gt (pc := 2) (tgt := 15) h dX12_isStronger_2 rfl (fun b3 => ?_) (fun b3 => ?_)
  · have hf := hf.1 b3
    refine zr_iconst (pc := 15) (v := (1 : Int32)) h dX12_isStronger_15 (by decide) ?_
    refine zr_goto (pc := 16) (tgt := 20) h dX12_isStronger_16 rfl ?_
    exact zr_zret (pc := 20) h rfl dX12_isStronger_20 (zRi hf) rfl
  · have hf := hf.2 b3
    refine zr_iload_n (pc := 5) h dX12_isStronger_5 rfl rfl ?_
    refine zr_iload_n (pc := 6) h dX12_isStronger_6 rfl rfl ?_
    have hf := zIf_s hf
    refine zr_icmp_ne (pc := 7) (tgt := 19) h dX12_isStronger_7 rfl (fun b2 => ?_) (fun b2 => ?_)
    · have hf := hf.2 b2
      refine zr_iconst (pc := 19) (v := (0 : Int32)) h dX12_isStronger_19 (by decide) ?_
      exact zr_zret (pc := 20) h rfl dX12_isStronger_20 (zRi hf) rfl
    · have hf := hf.1 b2
      refine zr_iload_n (pc := 10) h dX12_isStronger_10 rfl rfl ?_
      refine zr_iload_n (pc := 11) h dX12_isStronger_11 rfl rfl ?_
      have hf := zIf_s hf
      refine zr_icmp_le (pc := 12) (tgt := 19) h dX12_isStronger_12 rfl (fun b1 => ?_) (fun b1 => ?_)
      · have hf := hf.1 b1
        refine zr_iconst (pc := 19) (v := (0 : Int32)) h dX12_isStronger_19 (by decide) ?_
        exact zr_zret (pc := 20) h rfl dX12_isStronger_20 (zRi hf) rfl
      · have hf := hf.2 b1
        refine zr_iconst (pc := 15) (v := (1 : Int32)) h dX12_isStronger_15 (by decide) ?_
        refine zr_goto (pc := 16) (tgt := 20) h dX12_isStronger_16 rfl ?_
        exact zr_zret (pc := 20) h rfl dX12_isStronger_20 (zRi hf) rfl

set_option maxRecDepth 100000 in
set_option maxHeartbeats 4000000 in
theorem fX12_comesUp_l14_ok {l : Launch} {g : gG} {ν : gM} {K : gKt} (h : gR l g cX12_comesUp RX12 3 none (gRm 5 111) none ν K) : ∀ (n : Nat) (y1 : Int32) (y2 : Int32) (μ : gM), fX12_comesUp_l14 n y1 y2 μ = some ν → K 14 [some (.ref (g.1 + 267)), some (.int y1), some (.int y2)] [] μ := by
  intro n
  induction n with
  | zero =>
    intro y1 y2 μ hf
    cases (show (none : Option gM) = some _ from hf)
  | succ n ih =>
    intro y1 y2 μ hf
    unfold fX12_comesUp_l14 at hf
    refine zr_iload_n (pc := 14) h dX12_comesUp_14 rfl rfl ?_
    refine zr_aload_n (pc := 15) h dX12_comesUp_15 rfl rfl ?_
    obtain ⟨x2, ex2, hf⟩ := zBd_s hf
    refine zm_X12_253 (pc := 16) h gkc_267 ⟨by decide, by decide⟩ (cX12_groups_ok ex2) rfl (Nat.le_of_ble_eq_true rfl) dX12_comesUp_16 rfl ?_
    have hf := zIf_s hf
    refine zr_icmp_ge (pc := 19) (tgt := 67) h dX12_comesUp_19 rfl (fun b12 => ?_) (fun b12 => ?_)
    · have hf := hf.1 b12
      exact zr_vret (pc := 67) h dX12_comesUp_67 rfl (zRv hf)
    · have hf := hf.2 b12
      refine zr_aload_n (pc := 22) h dX12_comesUp_22 rfl rfl ?_
      refine zr_iload_n (pc := 23) h dX12_comesUp_23 rfl rfl ?_
      refine zr_iload_n (pc := 24) h dX12_comesUp_24 rfl rfl ?_
      obtain ⟨x3, ex3, hf⟩ := zBd_s hf
      refine zm_X12_287 (pc := 25) h gkc_267 ⟨by decide, by decide⟩ (cX12_isMember_ok ex3) rfl (Nat.le_of_ble_eq_true rfl) dX12_comesUp_25 rfl ?_
      have hf := zIf_s hf
      refine zr_if_ne (pc := 28) (tgt := 34) h dX12_comesUp_28 rfl (fun b11 => ?_) (fun b11 => ?_)
      · have hf := hf.2 b11
        refine zr_aload_n (pc := 34) h dX12_comesUp_34 rfl rfl ?_
        refine zr_iload_n (pc := 35) h dX12_comesUp_35 rfl rfl ?_
        refine zr_iload_n (pc := 36) h dX12_comesUp_36 rfl rfl ?_
        obtain ⟨x4, ex4, hf⟩ := zBd_s hf
        refine zm_X12_268 (pc := 37) h gkc_267 ⟨by decide, by decide⟩ (cX12_wordOf_ok ex4) rfl (Nat.le_of_ble_eq_true rfl) dX12_comesUp_37 rfl ?_
        refine zr_sipush (pc := 40) (v := (255 : Int32)) h dX12_comesUp_40 (by decide) ?_
        have hf := zIf_s hf
        refine zr_icmp_ne (pc := 43) (tgt := 55) h dX12_comesUp_43 rfl (fun b9 => ?_) (fun b9 => ?_)
        · have hf := hf.2 b9
          refine zr_aload_n (pc := 55) h dX12_comesUp_55 rfl rfl ?_
          refine zr_iload_n (pc := 56) h dX12_comesUp_56 rfl rfl ?_
          refine zr_iload_n (pc := 57) h dX12_comesUp_57 rfl rfl ?_
          obtain ⟨μ5, eμ5, hf⟩ := zBd_s hf
          refine zm_X12_293 (pc := 58) h gkc_267 ⟨by decide, by decide⟩ (cX12_toWait_ok eμ5) rfl (Nat.le_of_ble_eq_true rfl) dX12_comesUp_58 rfl ?_
          refine zr_iincx (pc := 61) h dX12_comesUp_61 rfl (by decide) rfl (c := (1 : Int32)) (by decide) (fun x6 ex6 => ?_)
          have hf := zLt_s ex6 hf
          refine zr_goto (pc := 64) (tgt := 14) h dX12_comesUp_64 rfl ?_
          exact zr_weak h [true, true, true] (ih _ _ _ hf)
        · have hf := hf.1 b9
          refine zr_aload_n (pc := 46) h dX12_comesUp_46 rfl rfl ?_
          refine zr_iload_n (pc := 47) h dX12_comesUp_47 rfl rfl ?_
          refine zr_iload_n (pc := 48) h dX12_comesUp_48 rfl rfl ?_
          obtain ⟨μ7, eμ7, hf⟩ := zBd_s hf
          refine zm_X12_290 (pc := 49) h gkc_267 ⟨by decide, by decide⟩ (cX12_toHold_ok eμ7) rfl (Nat.le_of_ble_eq_true rfl) dX12_comesUp_49 rfl ?_
          refine zr_goto (pc := 52) (tgt := 61) h dX12_comesUp_52 rfl ?_
          refine zr_iincx (pc := 61) h dX12_comesUp_61 rfl (by decide) rfl (c := (1 : Int32)) (by decide) (fun x8 ex8 => ?_)
          have hf := zLt_s ex8 hf
          refine zr_goto (pc := 64) (tgt := 14) h dX12_comesUp_64 rfl ?_
          exact zr_weak h [true, true, true] (ih _ _ _ hf)
      · have hf := hf.1 b11
        refine zr_goto (pc := 31) (tgt := 61) h dX12_comesUp_31 rfl ?_
        refine zr_iincx (pc := 61) h dX12_comesUp_61 rfl (by decide) rfl (c := (1 : Int32)) (by decide) (fun x10 ex10 => ?_)
        have hf := zLt_s ex10 hf
        refine zr_goto (pc := 64) (tgt := 14) h dX12_comesUp_64 rfl ?_
        exact zr_weak h [true, true, true] (ih _ _ _ hf)

set_option maxRecDepth 100000 in
set_option maxHeartbeats 4000000 in
theorem cX12_comesUp_ok {l : Launch} {g : gG} {a1 : Int32} {μ : gM} {ν : gM} (hf : fX12_comesUp a1 μ = some ν) : gMet l g yX12_comesUp cX12_comesUp 3 none 5 111 [.ref (g.1 + 267), .int a1] μ none ν := by
  refine gMet_of (gIni [.ref (g.1 + 267), .int a1] ++ List.replicate 1 none) (by decide) (gIni_ok _ _) (Nat.le_of_ble_eq_true rfl) (fun K h => ?_)
  show K 0 [some (.ref (g.1 + 267)), some (.int a1), none] [] μ
  unfold fX12_comesUp at hf
  refine zr_aload_n (pc := 0) h dX12_comesUp_0 rfl rfl ?_
  refine zf_X12_27 (pc := 1) h gkc_267 dX12_comesUp_1 ?_
  refine zr_iconst (pc := 4) (v := (1 : Int32)) h dX12_comesUp_4 (by decide) ?_
  refine zr_dup2 (pc := 5) h dX12_comesUp_5 rfl rfl ?_
  refine zr_iald (pc := 6) (q := 1) h gkc_272 rfl (by decide) dX12_comesUp_6 ?_
  refine zr_iconst (pc := 7) (v := (1 : Int32)) h dX12_comesUp_7 (by decide) ?_
  refine zr_iload_n (pc := 8) h dX12_comesUp_8 rfl rfl ?_
  refine zr_ishl (pc := 9) h dX12_comesUp_9 ?_
  refine zr_ior (pc := 10) h dX12_comesUp_10 ?_
  refine zr_iast (pc := 11) (q := 1) h gkc_272 rfl (by decide) dX12_comesUp_11 ?_
  refine zr_mu h (fun μ1 eμ1 => ?_)
  have hf := zLt_s eμ1 hf
  refine zr_iconst (pc := 12) (v := (0 : Int32)) h dX12_comesUp_12 (by decide) ?_
  refine zr_istore_n (pc := 13) h dX12_comesUp_13 rfl (by decide) rfl ?_
  exact zr_weak h [true, true, true] (fX12_comesUp_l14_ok h 100000 _ _ _ hf)

set_option maxRecDepth 100000 in
set_option maxHeartbeats 4000000 in
theorem fX12_farewell_l12_ok {l : Launch} {g : gG} {ν : gM} {K : gKt} (h : gR l g cX12_farewell RX12 5 none (gRm 3 67) none ν K) : ∀ (n : Nat) (y1 : Int32) (y2 : Int32) (y3 : Int32) (μ : gM), fX12_farewell_l12 n y1 y2 y3 μ = some ν → K 12 [some (.ref (g.1 + 267)), some (.int y1), some (.int y2), some (.int y3), none] [] μ := by
  intro n
  induction n with
  | zero =>
    intro y1 y2 y3 μ hf
    cases (show (none : Option gM) = some _ from hf)
  | succ n ih =>
    intro y1 y2 y3 μ hf
    unfold fX12_farewell_l12 at hf
    refine zr_iload_n (pc := 12) h dX12_farewell_12 rfl rfl ?_
    refine zr_aload_n (pc := 13) h dX12_farewell_13 rfl rfl ?_
    obtain ⟨x2, ex2, hf⟩ := zBd_s hf
    refine zm_X12_256 (pc := 14) h gkc_267 ⟨by decide, by decide⟩ (cX12_gates_ok ex2) rfl (Nat.le_of_ble_eq_true rfl) dX12_farewell_14 rfl ?_
    have hf := zIf_s hf
    refine zr_icmp_ge (pc := 17) (tgt := 89) h dX12_farewell_17 rfl (fun b17 => ?_) (fun b17 => ?_)
    · have hf := hf.1 b17
      exact zr_vret (pc := 89) h dX12_farewell_89 rfl (zRv hf)
    · have hf := hf.2 b17
      refine zr_iload_n (pc := 20) h dX12_farewell_20 rfl rfl ?_
      refine zr_iload_n (pc := 21) h dX12_farewell_21 rfl rfl ?_
      obtain ⟨x3, ex3, hf⟩ := zBd_s hf
      refine zm_X12_190 (pc := 22) h ⟨by decide, by decide⟩ (cX12_of_ok ex3) rfl (Nat.le_of_ble_eq_true rfl) dX12_farewell_22 rfl ?_
      refine zr_istore (pc := 25) h dX12_farewell_25 (by decide) rfl ?_
      refine zr_aload_n (pc := 27) h dX12_farewell_27 rfl rfl ?_
      refine zf_X12_27 (pc := 28) h gkc_267 dX12_farewell_28 ?_
      refine zr_bipush (pc := 31) (v := (40 : Int32)) h dX12_farewell_31 (by decide) ?_
      refine zr_iload (pc := 33) h dX12_farewell_33 rfl ?_
      refine zr_iadd (pc := 35) h dX12_farewell_35 ?_
      obtain ⟨q4, hf⟩ := zCk_s hf
      refine zr_iald (pc := 36) h gkc_272 q4 rfl dX12_farewell_36 ?_
      refine zr_iconst (pc := 37) (v := (1 : Int32)) h dX12_farewell_37 (by decide) ?_
      have hf := zIf_s hf
      refine zr_icmp_ne (pc := 38) (tgt := 83) h dX12_farewell_38 rfl (fun b16 => ?_) (fun b16 => ?_)
      · have hf := hf.2 b16
        refine zr_iincx (pc := 83) h dX12_farewell_83 rfl (by decide) rfl (c := (1 : Int32)) (by decide) (fun x5 ex5 => ?_)
        have hf := zLt_s ex5 hf
        refine zr_goto (pc := 86) (tgt := 12) h dX12_farewell_86 rfl ?_
        exact zr_weak h [true, true, true, true, false] (ih _ _ _ _ hf)
      · have hf := hf.1 b16
        refine zr_aload_n (pc := 41) h dX12_farewell_41 rfl rfl ?_
        refine zr_iload_n (pc := 42) h dX12_farewell_42 rfl rfl ?_
        refine zr_iload_n (pc := 43) h dX12_farewell_43 rfl rfl ?_
        obtain ⟨x6, ex6, hf⟩ := zBd_s hf
        refine zm_X12_296 (pc := 44) h gkc_267 ⟨by decide, by decide⟩ (cX12_areTogether_ok ex6) rfl (Nat.le_of_ble_eq_true rfl) dX12_farewell_44 rfl ?_
        have hf := zIf_s hf
        refine zr_if_eq (pc := 47) (tgt := 83) h dX12_farewell_47 rfl (fun b15 => ?_) (fun b15 => ?_)
        · have hf := hf.1 b15
          refine zr_iincx (pc := 83) h dX12_farewell_83 rfl (by decide) rfl (c := (1 : Int32)) (by decide) (fun x7 ex7 => ?_)
          have hf := zLt_s ex7 hf
          refine zr_goto (pc := 86) (tgt := 12) h dX12_farewell_86 rfl ?_
          exact zr_weak h [true, true, true, true, false] (ih _ _ _ _ hf)
        · have hf := hf.2 b15
          refine zr_aload_n (pc := 50) h dX12_farewell_50 rfl rfl ?_
          refine zf_X12_27 (pc := 51) h gkc_267 dX12_farewell_51 ?_
          refine zr_bipush (pc := 54) (v := (70 : Int32)) h dX12_farewell_54 (by decide) ?_
          refine zr_iload (pc := 56) h dX12_farewell_56 rfl ?_
          refine zr_iadd (pc := 58) h dX12_farewell_58 ?_
          refine zr_aload_n (pc := 59) h dX12_farewell_59 rfl rfl ?_
          refine zf_X12_27 (pc := 60) h gkc_267 dX12_farewell_60 ?_
          refine zr_bipush (pc := 63) (v := (70 : Int32)) h dX12_farewell_63 (by decide) ?_
          refine zr_iload (pc := 65) h dX12_farewell_65 rfl ?_
          refine zr_iadd (pc := 67) h dX12_farewell_67 ?_
          obtain ⟨q8, hf⟩ := zCk_s hf
          refine zr_iald (pc := 68) h gkc_272 q8 rfl dX12_farewell_68 ?_
          refine zr_iconst (pc := 69) (v := (1 : Int32)) h dX12_farewell_69 (by decide) ?_
          refine zr_aload_n (pc := 70) h dX12_farewell_70 rfl rfl ?_
          refine zr_iload_n (pc := 71) h dX12_farewell_71 rfl rfl ?_
          refine zr_iload_n (pc := 72) h dX12_farewell_72 rfl rfl ?_
          obtain ⟨x9, ex9, hf⟩ := zBd_s hf
          refine zm_X12_271 (pc := 73) h gkc_267 ⟨by decide, by decide⟩ (cX12_skewOf_ok ex9) rfl (Nat.le_of_ble_eq_true rfl) dX12_farewell_73 rfl ?_
          obtain ⟨x10, ex10, hf⟩ := zBd_s hf
          refine zm_X12_265 (pc := 76) h ⟨by decide, by decide⟩ (cX12_greater_ok ex10) rfl (Nat.le_of_ble_eq_true rfl) dX12_farewell_76 rfl ?_
          obtain ⟨x11, ex11, hf⟩ := zBd_s hf
          refine zm_X12_274 (pc := 79) h ⟨by decide, by decide⟩ (cX12_lesser_ok ex11) rfl (Nat.le_of_ble_eq_true rfl) dX12_farewell_79 rfl ?_
          obtain ⟨q12, hf⟩ := zCk_s hf
          refine zr_iast (pc := 82) h gkc_272 q12 rfl dX12_farewell_82 ?_
          refine zr_mu h (fun μ13 eμ13 => ?_)
          have hf := zLt_s eμ13 hf
          refine zr_iincx (pc := 83) h dX12_farewell_83 rfl (by decide) rfl (c := (1 : Int32)) (by decide) (fun x14 ex14 => ?_)
          have hf := zLt_s ex14 hf
          refine zr_goto (pc := 86) (tgt := 12) h dX12_farewell_86 rfl ?_
          exact zr_weak h [true, true, true, true, false] (ih _ _ _ _ hf)

set_option maxRecDepth 100000 in
set_option maxHeartbeats 4000000 in
theorem cX12_farewell_ok {l : Launch} {g : gG} {a1 : Int32} {a2 : Int32} {μ : gM} {ν : gM} (hf : fX12_farewell a1 a2 μ = some ν) : gMet l g yX12_farewell cX12_farewell 5 none 3 67 [.ref (g.1 + 267), .int a1, .int a2] μ none ν := by
  refine gMet_of (gIni [.ref (g.1 + 267), .int a1, .int a2] ++ List.replicate 2 none) (by decide) (gIni_ok _ _) (Nat.le_of_ble_eq_true rfl) (fun K h => ?_)
  show K 0 [some (.ref (g.1 + 267)), some (.int a1), some (.int a2), none, none] [] μ
  unfold fX12_farewell at hf
  refine zr_aload_n (pc := 0) h dX12_farewell_0 rfl rfl ?_
  refine zf_X12_27 (pc := 1) h gkc_267 dX12_farewell_1 ?_
  refine zr_iconst (pc := 4) (v := (5 : Int32)) h dX12_farewell_4 (by decide) ?_
  refine zr_dup2 (pc := 5) h dX12_farewell_5 rfl rfl ?_
  refine zr_iald (pc := 6) (q := 5) h gkc_272 rfl (by decide) dX12_farewell_6 ?_
  refine zr_iconst (pc := 7) (v := (1 : Int32)) h dX12_farewell_7 (by decide) ?_
  refine zr_iadd (pc := 8) h dX12_farewell_8 ?_
  refine zr_iast (pc := 9) (q := 5) h gkc_272 rfl (by decide) dX12_farewell_9 ?_
  refine zr_mu h (fun μ1 eμ1 => ?_)
  have hf := zLt_s eμ1 hf
  refine zr_iconst (pc := 10) (v := (0 : Int32)) h dX12_farewell_10 (by decide) ?_
  refine zr_istore_n (pc := 11) h dX12_farewell_11 rfl (by decide) rfl ?_
  exact zr_weak h [true, true, true, true, false] (fX12_farewell_l12_ok h 100000 _ _ _ _ hf)

set_option maxRecDepth 100000 in
set_option maxHeartbeats 4000000 in
theorem fX12_goesDown_l19_ok {l : Launch} {g : gG} {r : Int32} {ν : gM} {K : gKt} (h : gR l g cX12_goesDown RX12 7 (some .int) (gRm 4 91) (some (.int r)) ν K) : ∀ (n : Nat) (y1 : Int32) (y2 : Int32) (y3 : Int32) (y4 : Int32) (μ : gM), fX12_goesDown_l19 n y1 y2 y3 y4 μ = some (r, ν) → K 19 [some (.ref (g.1 + 267)), some (.int y1), some (.int y2), some (.int y3), some (.int y4), none, none] [] μ := by
  intro n
  induction n with
  | zero =>
    intro y1 y2 y3 y4 μ hf
    cases (show (none : Option (Int32 × gM)) = some _ from hf)
  | succ n ih =>
    intro y1 y2 y3 y4 μ hf
    unfold fX12_goesDown_l19 at hf
    refine zr_iload (pc := 19) h dX12_goesDown_19 rfl ?_
    refine zr_aload_n (pc := 21) h dX12_goesDown_21 rfl rfl ?_
    obtain ⟨x2, ex2, hf⟩ := zBd_s hf
    refine zm_X12_253 (pc := 22) h gkc_267 ⟨by decide, by decide⟩ (cX12_groups_ok ex2) rfl (Nat.le_of_ble_eq_true rfl) dX12_goesDown_22 rfl ?_
    have hf := zIf_s hf
    refine zr_icmp_ge (pc := 25) (tgt := 114) h dX12_goesDown_25 rfl (fun b19 => ?_) (fun b19 => ?_)
    · have hf := hf.1 b19
      refine zr_iload_n (pc := 114) h dX12_goesDown_114 rfl rfl ?_
      exact zr_iret (pc := 115) h dX12_goesDown_115 (zRp hf).1 (zRp hf).2
    · have hf := hf.2 b19
      refine zr_iload (pc := 28) h dX12_goesDown_28 rfl ?_
      refine zr_iload_n (pc := 30) h dX12_goesDown_30 rfl rfl ?_
      obtain ⟨x3, ex3, hf⟩ := zBd_s hf
      refine zm_X12_190 (pc := 31) h ⟨by decide, by decide⟩ (cX12_of_ok ex3) rfl (Nat.le_of_ble_eq_true rfl) dX12_goesDown_31 rfl ?_
      refine zr_istore (pc := 34) h dX12_goesDown_34 (by decide) rfl ?_
      refine zr_aload_n (pc := 36) h dX12_goesDown_36 rfl rfl ?_
      refine zr_iload (pc := 37) h dX12_goesDown_37 rfl ?_
      refine zr_iload_n (pc := 39) h dX12_goesDown_39 rfl rfl ?_
      obtain ⟨x4, ex4, hf⟩ := zBd_s hf
      refine zm_X12_299 (pc := 40) h gkc_267 ⟨by decide, by decide⟩ (cX12_doesHold_ok ex4) rfl (Nat.le_of_ble_eq_true rfl) dX12_goesDown_40 rfl ?_
      refine zr_istore (pc := 43) h dX12_goesDown_43 (by decide) rfl ?_
      refine zr_aload_n (pc := 45) h dX12_goesDown_45 rfl rfl ?_
      refine zf_X12_27 (pc := 46) h gkc_267 dX12_goesDown_46 ?_
      refine zr_bipush (pc := 49) (v := (40 : Int32)) h dX12_goesDown_49 (by decide) ?_
      refine zr_iload (pc := 51) h dX12_goesDown_51 rfl ?_
      refine zr_iadd (pc := 53) h dX12_goesDown_53 ?_
      refine zr_iconst (pc := 54) (v := (0 : Int32)) h dX12_goesDown_54 (by decide) ?_
      obtain ⟨q5, hf⟩ := zCk_s hf
      refine zr_iast (pc := 55) h gkc_272 q5 rfl dX12_goesDown_55 ?_
      refine zr_mu h (fun μ6 eμ6 => ?_)
      have hf := zLt_s eμ6 hf
      refine zr_aload_n (pc := 56) h dX12_goesDown_56 rfl rfl ?_
      refine zf_X12_27 (pc := 57) h gkc_267 dX12_goesDown_57 ?_
      refine zr_bipush (pc := 60) (v := (70 : Int32)) h dX12_goesDown_60 (by decide) ?_
      refine zr_iload (pc := 62) h dX12_goesDown_62 rfl ?_
      refine zr_iadd (pc := 64) h dX12_goesDown_64 ?_
      refine zr_iconst (pc := 65) (v := (0 : Int32)) h dX12_goesDown_65 (by decide) ?_
      obtain ⟨q7, hf⟩ := zCk_s hf
      refine zr_iast (pc := 66) h gkc_272 q7 rfl dX12_goesDown_66 ?_
      refine zr_mu h (fun μ8 eμ8 => ?_)
      have hf := zLt_s eμ8 hf
      refine zr_aload_n (pc := 67) h dX12_goesDown_67 rfl rfl ?_
      refine zf_X12_27 (pc := 68) h gkc_267 dX12_goesDown_68 ?_
      refine zr_bipush (pc := 71) (v := (100 : Int32)) h dX12_goesDown_71 (by decide) ?_
      refine zr_iload (pc := 73) h dX12_goesDown_73 rfl ?_
      refine zr_iadd (pc := 75) h dX12_goesDown_75 ?_
      refine zr_iconst (pc := 76) (v := (0 : Int32)) h dX12_goesDown_76 (by decide) ?_
      obtain ⟨q9, hf⟩ := zCk_s hf
      refine zr_iast (pc := 77) h gkc_272 q9 rfl dX12_goesDown_77 ?_
      refine zr_mu h (fun μ10 eμ10 => ?_)
      have hf := zLt_s eμ10 hf
      refine zr_iload (pc := 78) h dX12_goesDown_78 rfl ?_
      have hf := zIf_s hf
      refine zr_if_ne (pc := 80) (tgt := 86) h dX12_goesDown_80 rfl (fun b18 => ?_) (fun b18 => ?_)
      · have hf := hf.2 b18
        refine zr_iincx (pc := 86) h dX12_goesDown_86 rfl (by decide) rfl (c := (1 : Int32)) (by decide) (fun x11 ex11 => ?_)
        have hf := zLt_s ex11 hf
        refine zr_aload_n (pc := 89) h dX12_goesDown_89 rfl rfl ?_
        refine zr_iload (pc := 90) h dX12_goesDown_90 rfl ?_
        refine zr_iload_n (pc := 92) h dX12_goesDown_92 rfl rfl ?_
        refine zr_iconst (pc := 93) (v := (2 : Int32)) h dX12_goesDown_93 (by decide) ?_
        obtain ⟨μ12, eμ12, hf⟩ := zBd_s hf
        refine zm_X12_283 (pc := 94) h gkc_267 ⟨by decide, by decide⟩ (cX12_logs_ok eμ12) rfl (Nat.le_of_ble_eq_true rfl) dX12_goesDown_94 rfl ?_
        refine zr_iload_n (pc := 97) h dX12_goesDown_97 rfl rfl ?_
        have hf := zIf_s hf
        refine zr_if_eq (pc := 98) (tgt := 108) h dX12_goesDown_98 rfl (fun b16 => ?_) (fun b16 => ?_)
        · have hf := hf.1 b16
          refine zr_iincx (pc := 108) h dX12_goesDown_108 rfl (by decide) rfl (c := (1 : Int32)) (by decide) (fun x13 ex13 => ?_)
          have hf := zLt_s ex13 hf
          refine zr_goto (pc := 111) (tgt := 19) h dX12_goesDown_111 rfl ?_
          exact zr_weak h [true, true, true, true, true, false, false] (ih _ _ _ _ _ hf)
        · have hf := hf.2 b16
          refine zr_aload_n (pc := 101) h dX12_goesDown_101 rfl rfl ?_
          refine zr_iload (pc := 102) h dX12_goesDown_102 rfl ?_
          refine zr_iload_n (pc := 104) h dX12_goesDown_104 rfl rfl ?_
          obtain ⟨μ14, eμ14, hf⟩ := zBd_s hf
          refine zm_X12_302 (pc := 105) h gkc_267 ⟨by decide, by decide⟩ (cX12_farewell_ok eμ14) rfl (Nat.le_of_ble_eq_true rfl) dX12_goesDown_105 rfl ?_
          refine zr_iincx (pc := 108) h dX12_goesDown_108 rfl (by decide) rfl (c := (1 : Int32)) (by decide) (fun x15 ex15 => ?_)
          have hf := zLt_s ex15 hf
          refine zr_goto (pc := 111) (tgt := 19) h dX12_goesDown_111 rfl ?_
          exact zr_weak h [true, true, true, true, true, false, false] (ih _ _ _ _ _ hf)
      · have hf := hf.1 b18
        refine zr_goto (pc := 83) (tgt := 108) h dX12_goesDown_83 rfl ?_
        refine zr_iincx (pc := 108) h dX12_goesDown_108 rfl (by decide) rfl (c := (1 : Int32)) (by decide) (fun x17 ex17 => ?_)
        have hf := zLt_s ex17 hf
        refine zr_goto (pc := 111) (tgt := 19) h dX12_goesDown_111 rfl ?_
        exact zr_weak h [true, true, true, true, true, false, false] (ih _ _ _ _ _ hf)

set_option maxRecDepth 100000 in
set_option maxHeartbeats 4000000 in
theorem cX12_goesDown_ok {l : Launch} {g : gG} {a1 : Int32} {a2 : Int32} {μ : gM} {r : Int32} {ν : gM} (hf : fX12_goesDown a1 a2 μ = some (r, ν)) : gMet l g yX12_goesDown cX12_goesDown 7 (some .int) 4 91 [.ref (g.1 + 267), .int a1, .int a2] μ (some (.int r)) ν := by
  refine gMet_of (gIni [.ref (g.1 + 267), .int a1, .int a2] ++ List.replicate 4 none) (by decide) (gIni_ok _ _) (Nat.le_of_ble_eq_true rfl) (fun K h => ?_)
  show K 0 [some (.ref (g.1 + 267)), some (.int a1), some (.int a2), none, none, none, none] [] μ
  unfold fX12_goesDown at hf
  refine zr_aload_n (pc := 0) h dX12_goesDown_0 rfl rfl ?_
  refine zf_X12_27 (pc := 1) h gkc_267 dX12_goesDown_1 ?_
  refine zr_iconst (pc := 4) (v := (1 : Int32)) h dX12_goesDown_4 (by decide) ?_
  refine zr_dup2 (pc := 5) h dX12_goesDown_5 rfl rfl ?_
  refine zr_iald (pc := 6) (q := 1) h gkc_272 rfl (by decide) dX12_goesDown_6 ?_
  refine zr_iconst (pc := 7) (v := (1 : Int32)) h dX12_goesDown_7 (by decide) ?_
  refine zr_iload_n (pc := 8) h dX12_goesDown_8 rfl rfl ?_
  refine zr_ishl (pc := 9) h dX12_goesDown_9 ?_
  refine zr_iconst (pc := 10) (v := (-1 : Int32)) h dX12_goesDown_10 (by decide) ?_
  refine zr_ixor (pc := 11) h dX12_goesDown_11 ?_
  refine zr_iand (pc := 12) h dX12_goesDown_12 ?_
  refine zr_iast (pc := 13) (q := 1) h gkc_272 rfl (by decide) dX12_goesDown_13 ?_
  refine zr_mu h (fun μ1 eμ1 => ?_)
  have hf := zLt_s eμ1 hf
  refine zr_iconst (pc := 14) (v := (0 : Int32)) h dX12_goesDown_14 (by decide) ?_
  refine zr_istore_n (pc := 15) h dX12_goesDown_15 rfl (by decide) rfl ?_
  refine zr_iconst (pc := 16) (v := (0 : Int32)) h dX12_goesDown_16 (by decide) ?_
  refine zr_istore (pc := 17) h dX12_goesDown_17 (by decide) rfl ?_
  exact zr_weak h [true, true, true, true, true, false, false] (fX12_goesDown_l19_ok h 100000 _ _ _ _ _ hf)

set_option maxRecDepth 100000 in
set_option maxHeartbeats 4000000 in
theorem cX12_happens_ok {l : Launch} {g : gG} {a1 : Int32} {μ : gM} {ν : gM} (hf : fX12_happens a1 μ = some ν) : gMet l g yX12_happens cX12_happens 4 none 6 133 [.ref (g.1 + 267), .int a1] μ none ν := by
  refine gMet_of (gIni [.ref (g.1 + 267), .int a1] ++ List.replicate 2 none) (by decide) (gIni_ok _ _) (Nat.le_of_ble_eq_true rfl) (fun K h => ?_)
  show K 0 [some (.ref (g.1 + 267)), some (.int a1), none, none] [] μ
  unfold fX12_happens at hf
  refine zr_aload_n (pc := 0) h dX12_happens_0 rfl rfl ?_
  refine zf_X12_27 (pc := 1) h gkc_267 dX12_happens_1 ?_
  refine zr_sipush (pc := 4) (v := (145 : Int32)) h dX12_happens_4 (by decide) ?_
  refine zr_iconst (pc := 7) (v := (5 : Int32)) h dX12_happens_7 (by decide) ?_
  refine zr_iload_n (pc := 8) h dX12_happens_8 rfl rfl ?_
  refine zr_imul (pc := 9) h dX12_happens_9 ?_
  refine zr_iadd (pc := 10) h dX12_happens_10 ?_
  refine zr_iconst (pc := 11) (v := (2 : Int32)) h dX12_happens_11 (by decide) ?_
  refine zr_iadd (pc := 12) h dX12_happens_12 ?_
  obtain ⟨q1, hf⟩ := zCk_s hf
  refine zr_iald (pc := 13) h gkc_272 q1 rfl dX12_happens_13 ?_
  refine zr_topi h (fun x2 ex2 => ?_)
  have hf := zLt_s ex2 hf
  refine zr_istore_n (pc := 14) h dX12_happens_14 rfl (by decide) rfl ?_
  refine zr_aload_n (pc := 15) h dX12_happens_15 rfl rfl ?_
  refine zf_X12_27 (pc := 16) h gkc_267 dX12_happens_16 ?_
  refine zr_sipush (pc := 19) (v := (145 : Int32)) h dX12_happens_19 (by decide) ?_
  refine zr_iconst (pc := 22) (v := (5 : Int32)) h dX12_happens_22 (by decide) ?_
  refine zr_iload_n (pc := 23) h dX12_happens_23 rfl rfl ?_
  refine zr_imul (pc := 24) h dX12_happens_24 ?_
  refine zr_iadd (pc := 25) h dX12_happens_25 ?_
  refine zr_iconst (pc := 26) (v := (1 : Int32)) h dX12_happens_26 (by decide) ?_
  refine zr_iadd (pc := 27) h dX12_happens_27 ?_
  obtain ⟨q3, hf⟩ := zCk_s hf
  refine zr_iald (pc := 28) h gkc_272 q3 rfl dX12_happens_28 ?_
  refine zr_topi h (fun x4 ex4 => ?_)
  have hf := zLt_s ex4 hf
  have hf := zIf_s hf
  rcases Decidable.em (x4 = (0 : Int32)) with b5 | b5
  · have hf := hf.1 b5
    refine zr_tabIn (pc := 29) (tgt := 68) h dX12_happens_29 (by rw [b5]; decide) (by rw [b5]; decide) (off := 39) (by rw [b5]; rfl) rfl ?_
    refine zr_aload_n (pc := 68) h dX12_happens_68 rfl rfl ?_
    refine zr_iload_n (pc := 69) h dX12_happens_69 rfl rfl ?_
    obtain ⟨x6, ex6, hf⟩ := zBd_s hf
    refine zm_X12_305 (pc := 70) h gkc_267 ⟨by decide, by decide⟩ (cX12_isUp_ok ex6) rfl (Nat.le_of_ble_eq_true rfl) dX12_happens_70 rfl ?_
    have hf := zIf_s hf
    refine zr_if_ne (pc := 73) (tgt := 198) h dX12_happens_73 rfl (fun b8 => ?_) (fun b8 => ?_)
    · have hf := hf.2 b8
      exact zr_vret (pc := 198) h dX12_happens_198 rfl (zRv hf)
    · have hf := hf.1 b8
      refine zr_aload_n (pc := 76) h dX12_happens_76 rfl rfl ?_
      refine zr_iload_n (pc := 77) h dX12_happens_77 rfl rfl ?_
      obtain ⟨μ7, eμ7, hf⟩ := zBd_s hf
      refine zm_X12_308 (pc := 78) h gkc_267 ⟨by decide, by decide⟩ (cX12_comesUp_ok eμ7) rfl (Nat.le_of_ble_eq_true rfl) dX12_happens_78 rfl ?_
      refine zr_goto (pc := 81) (tgt := 198) h dX12_happens_81 rfl ?_
      exact zr_vret (pc := 198) h dX12_happens_198 rfl (zRv hf)
  · have hf := hf.2 b5
    have hf := zIf_s hf
    rcases Decidable.em (x4 = (1 : Int32)) with b9 | b9
    · have hf := hf.1 b9
      refine zr_tabIn (pc := 29) (tgt := 84) h dX12_happens_29 (by rw [b9]; decide) (by rw [b9]; decide) (off := 55) (by rw [b9]; rfl) rfl ?_
      refine zr_aload_n (pc := 84) h dX12_happens_84 rfl rfl ?_
      refine zr_iload_n (pc := 85) h dX12_happens_85 rfl rfl ?_
      obtain ⟨x10, ex10, hf⟩ := zBd_s hf
      refine zm_X12_305 (pc := 86) h gkc_267 ⟨by decide, by decide⟩ (cX12_isUp_ok ex10) rfl (Nat.le_of_ble_eq_true rfl) dX12_happens_86 rfl ?_
      have hf := zIf_s hf
      refine zr_if_eq (pc := 89) (tgt := 101) h dX12_happens_89 rfl (fun b13 => ?_) (fun b13 => ?_)
      · have hf := hf.1 b13
        refine zr_iconst (pc := 101) (v := (0 : Int32)) h dX12_happens_101 (by decide) ?_
        refine zr_istore_n (pc := 102) h dX12_happens_102 rfl (by decide) rfl ?_
        refine zr_goto (pc := 103) (tgt := 198) h dX12_happens_103 rfl ?_
        exact zr_vret (pc := 198) h dX12_happens_198 rfl (zRv hf)
      · have hf := hf.2 b13
        refine zr_aload_n (pc := 92) h dX12_happens_92 rfl rfl ?_
        refine zr_iload_n (pc := 93) h dX12_happens_93 rfl rfl ?_
        refine zr_iconst (pc := 94) (v := (0 : Int32)) h dX12_happens_94 (by decide) ?_
        obtain ⟨x11, μ12, ex11, hf⟩ := zBp_s hf
        refine zm_X12_311 (pc := 95) h gkc_267 ⟨by decide, by decide⟩ (cX12_goesDown_ok ex11) rfl (Nat.le_of_ble_eq_true rfl) dX12_happens_95 rfl ?_
        refine zr_goto (pc := 98) (tgt := 102) h dX12_happens_98 rfl ?_
        refine zr_istore_n (pc := 102) h dX12_happens_102 rfl (by decide) rfl ?_
        refine zr_goto (pc := 103) (tgt := 198) h dX12_happens_103 rfl ?_
        exact zr_vret (pc := 198) h dX12_happens_198 rfl (zRv hf)
    · have hf := hf.2 b9
      have hf := zIf_s hf
      rcases Decidable.em (x4 = (2 : Int32)) with b14 | b14
      · have hf := hf.1 b14
        refine zr_tabIn (pc := 29) (tgt := 106) h dX12_happens_29 (by rw [b14]; decide) (by rw [b14]; decide) (off := 77) (by rw [b14]; rfl) rfl ?_
        refine zr_aload_n (pc := 106) h dX12_happens_106 rfl rfl ?_
        refine zf_X12_27 (pc := 107) h gkc_267 dX12_happens_107 ?_
        refine zr_iconst (pc := 110) (v := (2 : Int32)) h dX12_happens_110 (by decide) ?_
        refine zr_dup2 (pc := 111) h dX12_happens_111 rfl rfl ?_
        refine zr_iald (pc := 112) (q := 2) h gkc_272 rfl (by decide) dX12_happens_112 ?_
        refine zr_iconst (pc := 113) (v := (1 : Int32)) h dX12_happens_113 (by decide) ?_
        refine zr_iload_n (pc := 114) h dX12_happens_114 rfl rfl ?_
        refine zr_ishl (pc := 115) h dX12_happens_115 ?_
        refine zr_ior (pc := 116) h dX12_happens_116 ?_
        refine zr_iast (pc := 117) (q := 2) h gkc_272 rfl (by decide) dX12_happens_117 ?_
        refine zr_mu h (fun μ15 eμ15 => ?_)
        have hf := zLt_s eμ15 hf
        refine zr_goto (pc := 118) (tgt := 198) h dX12_happens_118 rfl ?_
        exact zr_vret (pc := 198) h dX12_happens_198 rfl (zRv hf)
      · have hf := hf.2 b14
        have hf := zIf_s hf
        rcases Decidable.em (x4 = (3 : Int32)) with b16 | b16
        · have hf := hf.1 b16
          refine zr_tabIn (pc := 29) (tgt := 121) h dX12_happens_29 (by rw [b16]; decide) (by rw [b16]; decide) (off := 92) (by rw [b16]; rfl) rfl ?_
          refine zr_aload_n (pc := 121) h dX12_happens_121 rfl rfl ?_
          refine zf_X12_27 (pc := 122) h gkc_267 dX12_happens_122 ?_
          refine zr_iconst (pc := 125) (v := (2 : Int32)) h dX12_happens_125 (by decide) ?_
          refine zr_dup2 (pc := 126) h dX12_happens_126 rfl rfl ?_
          refine zr_iald (pc := 127) (q := 2) h gkc_272 rfl (by decide) dX12_happens_127 ?_
          refine zr_iconst (pc := 128) (v := (1 : Int32)) h dX12_happens_128 (by decide) ?_
          refine zr_iload_n (pc := 129) h dX12_happens_129 rfl rfl ?_
          refine zr_ishl (pc := 130) h dX12_happens_130 ?_
          refine zr_iconst (pc := 131) (v := (-1 : Int32)) h dX12_happens_131 (by decide) ?_
          refine zr_ixor (pc := 132) h dX12_happens_132 ?_
          refine zr_iand (pc := 133) h dX12_happens_133 ?_
          refine zr_iast (pc := 134) (q := 2) h gkc_272 rfl (by decide) dX12_happens_134 ?_
          refine zr_mu h (fun μ17 eμ17 => ?_)
          have hf := zLt_s eμ17 hf
          refine zr_goto (pc := 135) (tgt := 198) h dX12_happens_135 rfl ?_
          exact zr_vret (pc := 198) h dX12_happens_198 rfl (zRv hf)
        · have hf := hf.2 b16
          have hf := zIf_s hf
          rcases Decidable.em (x4 = (4 : Int32)) with b18 | b18
          · have hf := hf.1 b18
            refine zr_tabIn (pc := 29) (tgt := 138) h dX12_happens_29 (by rw [b18]; decide) (by rw [b18]; decide) (off := 109) (by rw [b18]; rfl) rfl ?_
            refine zr_aload_n (pc := 138) h dX12_happens_138 rfl rfl ?_
            refine zf_X12_27 (pc := 139) h gkc_267 dX12_happens_139 ?_
            refine zr_iconst (pc := 142) (v := (3 : Int32)) h dX12_happens_142 (by decide) ?_
            refine zr_iload_n (pc := 143) h dX12_happens_143 rfl rfl ?_
            refine zr_iast (pc := 144) (q := 3) h gkc_272 rfl (by decide) dX12_happens_144 ?_
            refine zr_mu h (fun μ19 eμ19 => ?_)
            have hf := zLt_s eμ19 hf
            refine zr_goto (pc := 145) (tgt := 198) h dX12_happens_145 rfl ?_
            exact zr_vret (pc := 198) h dX12_happens_198 rfl (zRv hf)
          · have hf := hf.2 b18
            have hf := zIf_s hf
            rcases Decidable.em (x4 = (5 : Int32)) with b20 | b20
            · have hf := hf.1 b20
              refine zr_tabIn (pc := 29) (tgt := 148) h dX12_happens_29 (by rw [b20]; decide) (by rw [b20]; decide) (off := 119) (by rw [b20]; rfl) rfl ?_
              refine zr_aload_n (pc := 148) h dX12_happens_148 rfl rfl ?_
              refine zf_X12_27 (pc := 149) h gkc_267 dX12_happens_149 ?_
              refine zr_iconst (pc := 152) (v := (3 : Int32)) h dX12_happens_152 (by decide) ?_
              refine zr_iconst (pc := 153) (v := (0 : Int32)) h dX12_happens_153 (by decide) ?_
              refine zr_iast (pc := 154) (q := 3) h gkc_272 rfl (by decide) dX12_happens_154 ?_
              refine zr_mu h (fun μ21 eμ21 => ?_)
              have hf := zLt_s eμ21 hf
              refine zr_goto (pc := 155) (tgt := 198) h dX12_happens_155 rfl ?_
              exact zr_vret (pc := 198) h dX12_happens_198 rfl (zRv hf)
            · have hf := hf.2 b20
              refine zr_tabOut (pc := 29) (tgt := 158) h dX12_happens_29 (zTab_6 b5 b9 b14 b16 b18 b20) rfl ?_
              refine zr_aload_n (pc := 158) h dX12_happens_158 rfl rfl ?_
              refine zf_X12_27 (pc := 159) h gkc_267 dX12_happens_159 ?_
              refine zr_bipush (pc := 162) (v := (10 : Int32)) h dX12_happens_162 (by decide) ?_
              refine zr_aload_n (pc := 164) h dX12_happens_164 rfl rfl ?_
              refine zf_X12_27 (pc := 165) h gkc_267 dX12_happens_165 ?_
              refine zr_sipush (pc := 168) (v := (145 : Int32)) h dX12_happens_168 (by decide) ?_
              refine zr_iconst (pc := 171) (v := (5 : Int32)) h dX12_happens_171 (by decide) ?_
              refine zr_iload_n (pc := 172) h dX12_happens_172 rfl rfl ?_
              refine zr_imul (pc := 173) h dX12_happens_173 ?_
              refine zr_iadd (pc := 174) h dX12_happens_174 ?_
              refine zr_iconst (pc := 175) (v := (3 : Int32)) h dX12_happens_175 (by decide) ?_
              refine zr_iadd (pc := 176) h dX12_happens_176 ?_
              obtain ⟨q22, hf⟩ := zCk_s hf
              refine zr_iald (pc := 177) h gkc_272 q22 rfl dX12_happens_177 ?_
              refine zr_iload_n (pc := 178) h dX12_happens_178 rfl rfl ?_
              obtain ⟨x23, ex23, hf⟩ := zBd_s hf
              refine zm_X12_190 (pc := 179) h ⟨by decide, by decide⟩ (cX12_of_ok ex23) rfl (Nat.le_of_ble_eq_true rfl) dX12_happens_179 rfl ?_
              refine zr_iadd (pc := 182) h dX12_happens_182 ?_
              refine zr_aload_n (pc := 183) h dX12_happens_183 rfl rfl ?_
              refine zf_X12_27 (pc := 184) h gkc_267 dX12_happens_184 ?_
              refine zr_sipush (pc := 187) (v := (145 : Int32)) h dX12_happens_187 (by decide) ?_
              refine zr_iconst (pc := 190) (v := (5 : Int32)) h dX12_happens_190 (by decide) ?_
              refine zr_iload_n (pc := 191) h dX12_happens_191 rfl rfl ?_
              refine zr_imul (pc := 192) h dX12_happens_192 ?_
              refine zr_iadd (pc := 193) h dX12_happens_193 ?_
              refine zr_iconst (pc := 194) (v := (4 : Int32)) h dX12_happens_194 (by decide) ?_
              refine zr_iadd (pc := 195) h dX12_happens_195 ?_
              obtain ⟨q24, hf⟩ := zCk_s hf
              refine zr_iald (pc := 196) h gkc_272 q24 rfl dX12_happens_196 ?_
              obtain ⟨q25, hf⟩ := zCk_s hf
              refine zr_iast (pc := 197) h gkc_272 q25 rfl dX12_happens_197 ?_
              refine zr_mu h (fun μ26 eμ26 => ?_)
              have hf := zLt_s eμ26 hf
              exact zr_vret (pc := 198) h dX12_happens_198 rfl (zRv hf)

set_option maxRecDepth 100000 in
set_option maxHeartbeats 4000000 in
theorem fX12_isLost_n66_ok {l : Launch} {g : gG} {r : Int32} {ν : gM} {K : gKt} (h : gR l g cX12_isLost RX12 4 (some .boolean) (gRm 1 20) (some (.int r)) ν K) {z0 : Int32} {μ : gM} (hf : fX12_isLost_n66 z0 μ = some (r, ν)) : K 66 [some (.ref (g.1 + 267)), none, none, none] [.int z0] μ := by
  unfold fX12_isLost_n66 at hf
  refine zr_istore_n (pc := 66) h dX12_isLost_66 rfl (by decide) rfl ?_
  refine zr_aload_n (pc := 67) h dX12_isLost_67 rfl rfl ?_
  refine zf_X12_27 (pc := 68) h gkc_267 dX12_isLost_68 ?_
  refine zr_bipush (pc := 71) (v := (6 : Int32)) h dX12_isLost_71 (by decide) ?_
  refine zr_dup2 (pc := 73) h dX12_isLost_73 rfl rfl ?_
  refine zr_iald (pc := 74) (q := 6) h gkc_272 rfl (by decide) dX12_isLost_74 ?_
  refine zr_iload_n (pc := 75) h dX12_isLost_75 rfl rfl ?_
  obtain ⟨x3, ex3, hf⟩ := zBd_s hf
  refine zm_X12_178 (pc := 76) h ⟨by decide, by decide⟩ (cX12_flag_ok ex3) rfl (Nat.le_of_ble_eq_true rfl) dX12_isLost_76 rfl ?_
  refine zr_iadd (pc := 79) h dX12_isLost_79 ?_
  refine zr_iast (pc := 80) (q := 6) h gkc_272 rfl (by decide) dX12_isLost_80 ?_
  refine zr_mu h (fun μ4 eμ4 => ?_)
  have hf := zLt_s eμ4 hf
  refine zr_iload_n (pc := 81) h dX12_isLost_81 rfl rfl ?_
  obtain ⟨q5, hf⟩ := zCk_s hf
  exact zr_zret (pc := 82) h (zBoo q5) dX12_isLost_82 (zRp hf).1 (zRp hf).2

set_option maxRecDepth 100000 in
set_option maxHeartbeats 4000000 in
theorem cX12_isLost_ok {l : Launch} {g : gG} {μ : gM} {r : Int32} {ν : gM} (hf : fX12_isLost μ = some (r, ν)) : gMet l g yX12_isLost cX12_isLost 4 (some .boolean) 1 20 [.ref (g.1 + 267)] μ (some (.int r)) ν := by
  refine gMet_of (gIni [.ref (g.1 + 267)] ++ List.replicate 3 none) (by decide) (gIni_ok _ _) (Nat.le_of_ble_eq_true rfl) (fun K h => ?_)
  show K 0 [some (.ref (g.1 + 267)), none, none, none] [] μ
  unfold fX12_isLost at hf
  refine zr_aload_n (pc := 0) h dX12_isLost_0 rfl rfl ?_
  refine zf_X12_27 (pc := 1) h gkc_267 dX12_isLost_1 ?_
  refine zr_iconst (pc := 4) (v := (4 : Int32)) h dX12_isLost_4 (by decide) ?_
  refine zr_iald (pc := 5) (q := 4) h gkc_272 rfl (by decide) dX12_isLost_5 ?_
  have hf := zIf_s hf
  refine zr_if_ne (pc := 6) (tgt := 11) h dX12_isLost_6 rfl (fun b7 => ?_) (fun b7 => ?_)
  · have hf := hf.2 b7
    refine zr_ldc2 (pc := 11) h zw_1784 dX12_isLost_11 ?_
    refine zr_aload_n (pc := 14) h dX12_isLost_14 rfl rfl ?_
    refine zf_X12_27 (pc := 15) h gkc_267 dX12_isLost_15 ?_
    refine zr_bipush (pc := 18) (v := (9 : Int32)) h dX12_isLost_18 (by decide) ?_
    refine zr_iald (pc := 20) (q := 9) h gkc_272 rfl (by decide) dX12_isLost_20 ?_
    refine zr_i2l (pc := 21) h dX12_isLost_21 ?_
    refine zr_lmul (pc := 22) h dX12_isLost_22 ?_
    refine zr_ldc2 (pc := 23) h zw_1785 dX12_isLost_23 ?_
    refine zr_ladd (pc := 26) h dX12_isLost_26 ?_
    refine zr_ldc2 (pc := 27) h zw_1786 dX12_isLost_27 ?_
    refine zr_lrem (pc := 30) h dX12_isLost_30 (by decide) ?_
    refine zr_topl h (fun x1 ex1 => ?_)
    have hf := zLt_s ex1 hf
    refine zr_lstore_n (pc := 31) h dX12_isLost_31 rfl (by decide) rfl ?_
    refine zr_aload_n (pc := 32) h dX12_isLost_32 rfl rfl ?_
    refine zf_X12_27 (pc := 33) h gkc_267 dX12_isLost_33 ?_
    refine zr_bipush (pc := 36) (v := (9 : Int32)) h dX12_isLost_36 (by decide) ?_
    refine zr_lload_n (pc := 38) h dX12_isLost_38 rfl rfl ?_
    refine zr_l2i (pc := 39) h dX12_isLost_39 ?_
    refine zr_iast (pc := 40) (q := 9) h gkc_272 rfl (by decide) dX12_isLost_40 ?_
    refine zr_mu h (fun μ2 eμ2 => ?_)
    have hf := zLt_s eμ2 hf
    refine zr_lload_n (pc := 41) h dX12_isLost_41 rfl rfl ?_
    refine zr_ldc2 (pc := 42) h zw_1787 dX12_isLost_42 ?_
    refine zr_ldiv (pc := 45) h dX12_isLost_45 (by decide) ?_
    refine zr_ldc2 (pc := 46) h zw_1788 dX12_isLost_46 ?_
    refine zr_lrem (pc := 49) h dX12_isLost_49 (by decide) ?_
    refine zr_aload_n (pc := 50) h dX12_isLost_50 rfl rfl ?_
    refine zf_X12_27 (pc := 51) h gkc_267 dX12_isLost_51 ?_
    refine zr_iconst (pc := 54) (v := (4 : Int32)) h dX12_isLost_54 (by decide) ?_
    refine zr_iald (pc := 55) (q := 4) h gkc_272 rfl (by decide) dX12_isLost_55 ?_
    refine zr_i2l (pc := 56) h dX12_isLost_56 ?_
    refine zr_lcmp (pc := 57) h dX12_isLost_57 ?_
    have hf := zIf_s hf
    refine zr_if_ge (pc := 58) (tgt := 65) h dX12_isLost_58 rfl (fun b6 => ?_) (fun b6 => ?_)
    · have hf := hf.1 b6
      refine zr_iconst (pc := 65) (v := (0 : Int32)) h dX12_isLost_65 (by decide) ?_
      exact zr_weak h [true, false, false, false] (fX12_isLost_n66_ok h hf)
    · have hf := hf.2 b6
      refine zr_iconst (pc := 61) (v := (1 : Int32)) h dX12_isLost_61 (by decide) ?_
      refine zr_goto (pc := 62) (tgt := 66) h dX12_isLost_62 rfl ?_
      exact zr_weak h [true, false, false, false] (fX12_isLost_n66_ok h hf)
  · have hf := hf.1 b7
    refine zr_iconst (pc := 9) (v := (0 : Int32)) h dX12_isLost_9 (by decide) ?_
    exact zr_zret (pc := 10) h rfl dX12_isLost_10 (zRp hf).1 (zRp hf).2

set_option maxRecDepth 100000 in
set_option maxHeartbeats 4000000 in
theorem fX12_sends_n44_ok {l : Launch} {g : gG} {ν : gM} {K : gKt} (h : gR l g cX12_sends RX12 4 none (gRm 3 68) none ν K) {y1 : Int32} {y2 : Int32} {y3 : Int32} {μ : gM} (hf : fX12_sends_n44 y1 y2 y3 μ = some ν) : K 44 [some (.ref (g.1 + 267)), some (.int y1), some (.int y2), some (.int y3)] [] μ := by
  unfold fX12_sends_n44 at hf
  refine zr_aload_n (pc := 44) h dX12_sends_44 rfl rfl ?_
  refine zr_iload_n (pc := 45) h dX12_sends_45 rfl rfl ?_
  refine zr_iload_n (pc := 46) h dX12_sends_46 rfl rfl ?_
  obtain ⟨x5, ex5, hf⟩ := zBd_s hf
  refine zm_X12_299 (pc := 47) h gkc_267 ⟨by decide, by decide⟩ (cX12_doesHold_ok ex5) rfl (Nat.le_of_ble_eq_true rfl) dX12_sends_47 rfl ?_
  have hf := zIf_s hf
  refine zr_if_eq (pc := 50) (tgt := 65) h dX12_sends_50 rfl (fun b15 => ?_) (fun b15 => ?_)
  · have hf := hf.1 b15
    exact zr_vret (pc := 65) h dX12_sends_65 rfl (zRv hf)
  · have hf := hf.2 b15
    refine zr_aload_n (pc := 53) h dX12_sends_53 rfl rfl ?_
    refine zf_X12_27 (pc := 54) h gkc_267 dX12_sends_54 ?_
    refine zr_bipush (pc := 57) (v := (70 : Int32)) h dX12_sends_57 (by decide) ?_
    refine zr_iload_n (pc := 59) h dX12_sends_59 rfl rfl ?_
    refine zr_iadd (pc := 60) h dX12_sends_60 ?_
    obtain ⟨q6, hf⟩ := zCk_s hf
    refine zr_iald (pc := 61) h gkc_272 q6 rfl dX12_sends_61 ?_
    have hf := zIf_s hf
    refine zr_if_eq (pc := 62) (tgt := 66) h dX12_sends_62 rfl (fun b14 => ?_) (fun b14 => ?_)
    · have hf := hf.1 b14
      refine zr_aload_n (pc := 66) h dX12_sends_66 rfl rfl ?_
      refine zf_X12_37 (pc := 67) h gkc_267 dX12_sends_67 ?_
      refine zr_iload_n (pc := 70) h dX12_sends_70 rfl rfl ?_
      refine zr_aload_n (pc := 71) h dX12_sends_71 rfl rfl ?_
      refine zr_iload_n (pc := 72) h dX12_sends_72 rfl rfl ?_
      refine zr_iload_n (pc := 73) h dX12_sends_73 rfl rfl ?_
      obtain ⟨x7, ex7, hf⟩ := zBd_s hf
      refine zm_X12_268 (pc := 74) h gkc_267 ⟨by decide, by decide⟩ (cX12_wordOf_ok ex7) rfl (Nat.le_of_ble_eq_true rfl) dX12_sends_74 rfl ?_
      obtain ⟨q8, hf⟩ := zCk_s hf
      refine zr_iast (pc := 77) h gkc_275 q8 rfl dX12_sends_77 ?_
      refine zr_mu h (fun μ9 eμ9 => ?_)
      have hf := zLt_s eμ9 hf
      refine zr_aload_n (pc := 78) h dX12_sends_78 rfl rfl ?_
      refine zf_X12_27 (pc := 79) h gkc_267 dX12_sends_79 ?_
      refine zr_iconst (pc := 82) (v := (5 : Int32)) h dX12_sends_82 (by decide) ?_
      refine zr_dup2 (pc := 83) h dX12_sends_83 rfl rfl ?_
      refine zr_iald (pc := 84) (q := 5) h gkc_272 rfl (by decide) dX12_sends_84 ?_
      refine zr_iconst (pc := 85) (v := (1 : Int32)) h dX12_sends_85 (by decide) ?_
      refine zr_iadd (pc := 86) h dX12_sends_86 ?_
      refine zr_iast (pc := 87) (q := 5) h gkc_272 rfl (by decide) dX12_sends_87 ?_
      refine zr_mu h (fun μ10 eμ10 => ?_)
      have hf := zLt_s eμ10 hf
      refine zr_aload_n (pc := 88) h dX12_sends_88 rfl rfl ?_
      refine zf_X12_27 (pc := 89) h gkc_267 dX12_sends_89 ?_
      refine zr_bipush (pc := 92) (v := (70 : Int32)) h dX12_sends_92 (by decide) ?_
      refine zr_iload_n (pc := 94) h dX12_sends_94 rfl rfl ?_
      refine zr_iadd (pc := 95) h dX12_sends_95 ?_
      refine zr_aload_n (pc := 96) h dX12_sends_96 rfl rfl ?_
      refine zf_X12_17 (pc := 97) h gkc_267 dX12_sends_97 ?_
      refine zr_bipush (pc := 100) (v := (28 : Int32)) h dX12_sends_100 (by decide) ?_
      refine zr_iload_n (pc := 102) h dX12_sends_102 rfl rfl ?_
      refine zr_iadd (pc := 103) h dX12_sends_103 ?_
      obtain ⟨q11, hf⟩ := zCk_s hf
      refine zr_iald (pc := 104) h gkc_269 q11 rfl dX12_sends_104 ?_
      obtain ⟨q12, hf⟩ := zCk_s hf
      refine zr_iast (pc := 105) h gkc_272 q12 rfl dX12_sends_105 ?_
      refine zr_mu h (fun μ13 eμ13 => ?_)
      have hf := zLt_s eμ13 hf
      exact zr_vret (pc := 106) h dX12_sends_106 rfl (zRv hf)
    · have hf := hf.2 b14
      exact zr_vret (pc := 65) h dX12_sends_65 rfl (zRv hf)

set_option maxRecDepth 100000 in
set_option maxHeartbeats 4000000 in
theorem cX12_sends_ok {l : Launch} {g : gG} {a1 : Int32} {a2 : Int32} {μ : gM} {ν : gM} (hf : fX12_sends a1 a2 μ = some ν) : gMet l g yX12_sends cX12_sends 4 none 3 68 [.ref (g.1 + 267), .int a1, .int a2] μ none ν := by
  refine gMet_of (gIni [.ref (g.1 + 267), .int a1, .int a2] ++ List.replicate 1 none) (by decide) (gIni_ok _ _) (Nat.le_of_ble_eq_true rfl) (fun K h => ?_)
  show K 0 [some (.ref (g.1 + 267)), some (.int a1), some (.int a2), none] [] μ
  unfold fX12_sends at hf
  refine zr_iload_n (pc := 0) h dX12_sends_0 rfl rfl ?_
  refine zr_iload_n (pc := 1) h dX12_sends_1 rfl rfl ?_
  obtain ⟨x1, ex1, hf⟩ := zBd_s hf
  refine zm_X12_190 (pc := 2) h ⟨by decide, by decide⟩ (cX12_of_ok ex1) rfl (Nat.le_of_ble_eq_true rfl) dX12_sends_2 rfl ?_
  refine zr_istore_n (pc := 5) h dX12_sends_5 rfl (by decide) rfl ?_
  refine zr_aload_n (pc := 6) h dX12_sends_6 rfl rfl ?_
  refine zf_X12_37 (pc := 7) h gkc_267 dX12_sends_7 ?_
  refine zr_iload_n (pc := 10) h dX12_sends_10 rfl rfl ?_
  refine zr_iconst (pc := 11) (v := (0 : Int32)) h dX12_sends_11 (by decide) ?_
  obtain ⟨q2, hf⟩ := zCk_s hf
  refine zr_iast (pc := 12) h gkc_275 q2 rfl dX12_sends_12 ?_
  refine zr_mu h (fun μ3 eμ3 => ?_)
  have hf := zLt_s eμ3 hf
  refine zr_aload_n (pc := 13) h dX12_sends_13 rfl rfl ?_
  refine zf_X12_27 (pc := 14) h gkc_267 dX12_sends_14 ?_
  refine zr_bipush (pc := 17) (v := (40 : Int32)) h dX12_sends_17 (by decide) ?_
  refine zr_iload_n (pc := 19) h dX12_sends_19 rfl rfl ?_
  refine zr_iadd (pc := 20) h dX12_sends_20 ?_
  obtain ⟨q4, hf⟩ := zCk_s hf
  refine zr_iald (pc := 21) h gkc_272 q4 rfl dX12_sends_21 ?_
  refine zr_iconst (pc := 22) (v := (1 : Int32)) h dX12_sends_22 (by decide) ?_
  have hf := zIf_s hf
  refine zr_icmp_ne (pc := 23) (tgt := 44) h dX12_sends_23 rfl (fun b19 => ?_) (fun b19 => ?_)
  · have hf := hf.2 b19
    exact zr_weak h [true, true, true, true] (fX12_sends_n44_ok h hf)
  · have hf := hf.1 b19
    refine zr_aload_n (pc := 26) h dX12_sends_26 rfl rfl ?_
    refine zf_X12_27 (pc := 27) h gkc_267 dX12_sends_27 ?_
    refine zr_bipush (pc := 30) (v := (70 : Int32)) h dX12_sends_30 (by decide) ?_
    refine zr_iload_n (pc := 32) h dX12_sends_32 rfl rfl ?_
    refine zr_iadd (pc := 33) h dX12_sends_33 ?_
    obtain ⟨q16, hf⟩ := zCk_s hf
    refine zr_iald (pc := 34) h gkc_272 q16 rfl dX12_sends_34 ?_
    have hf := zIf_s hf
    refine zr_if_gt (pc := 35) (tgt := 44) h dX12_sends_35 rfl (fun b18 => ?_) (fun b18 => ?_)
    · have hf := hf.1 b18
      exact zr_weak h [true, true, true, true] (fX12_sends_n44_ok h hf)
    · have hf := hf.2 b18
      refine zr_aload_n (pc := 38) h dX12_sends_38 rfl rfl ?_
      refine zr_iload_n (pc := 39) h dX12_sends_39 rfl rfl ?_
      refine zr_iload_n (pc := 40) h dX12_sends_40 rfl rfl ?_
      obtain ⟨μ17, eμ17, hf⟩ := zBd_s hf
      refine zm_X12_290 (pc := 41) h gkc_267 ⟨by decide, by decide⟩ (cX12_toHold_ok eμ17) rfl (Nat.le_of_ble_eq_true rfl) dX12_sends_41 rfl ?_
      exact zr_weak h [true, true, true, true] (fX12_sends_n44_ok h hf)

set_option maxRecDepth 100000 in
set_option maxHeartbeats 4000000 in
theorem fX12_reads_n83_ok {l : Launch} {g : gG} {ν : gM} {K : gKt} (h : gR l g cX12_reads RX12 6 none (gRm 5 111) none ν K) {y1 : Int32} {y3 : Int32} {y4 : Int32} {μ : gM} (hf : fX12_reads_n83 y1 y3 y4 μ = some ν) : K 83 [some (.ref (g.1 + 267)), some (.int y1), none, some (.int y3), some (.int y4), none] [] μ := by
  unfold fX12_reads_n83 at hf
  refine zr_aload_n (pc := 83) h dX12_reads_83 rfl rfl ?_
  refine zf_X12_27 (pc := 84) h gkc_267 dX12_reads_84 ?_
  refine zr_bipush (pc := 87) (v := (100 : Int32)) h dX12_reads_87 (by decide) ?_
  refine zr_iload (pc := 89) h dX12_reads_89 rfl ?_
  refine zr_iadd (pc := 91) h dX12_reads_91 ?_
  refine zr_iconst (pc := 92) (v := (0 : Int32)) h dX12_reads_92 (by decide) ?_
  obtain ⟨q6, hf⟩ := zCk_s hf
  refine zr_iast (pc := 93) h gkc_272 q6 rfl dX12_reads_93 ?_
  refine zr_mu h (fun μ7 eμ7 => ?_)
  have hf := zLt_s eμ7 hf
  refine zr_aload_n (pc := 94) h dX12_reads_94 rfl rfl ?_
  refine zf_X12_27 (pc := 95) h gkc_267 dX12_reads_95 ?_
  refine zr_bipush (pc := 98) (v := (70 : Int32)) h dX12_reads_98 (by decide) ?_
  refine zr_iload (pc := 100) h dX12_reads_100 rfl ?_
  refine zr_iadd (pc := 102) h dX12_reads_102 ?_
  refine zr_aload_n (pc := 103) h dX12_reads_103 rfl rfl ?_
  refine zr_iload_n (pc := 104) h dX12_reads_104 rfl rfl ?_
  refine zr_iload_n (pc := 105) h dX12_reads_105 rfl rfl ?_
  obtain ⟨x8, ex8, hf⟩ := zBd_s hf
  refine zm_X12_277 (pc := 106) h gkc_267 ⟨by decide, by decide⟩ (cX12_patienceOf_ok ex8) rfl (Nat.le_of_ble_eq_true rfl) dX12_reads_106 rfl ?_
  obtain ⟨q9, hf⟩ := zCk_s hf
  refine zr_iast (pc := 109) h gkc_272 q9 rfl dX12_reads_109 ?_
  refine zr_mu h (fun μ10 eμ10 => ?_)
  have hf := zLt_s eμ10 hf
  exact zr_vret (pc := 110) h dX12_reads_110 rfl (zRv hf)

set_option maxRecDepth 100000 in
set_option maxHeartbeats 4000000 in
theorem fX12_reads_n142_ok {l : Launch} {g : gG} {ν : gM} {K : gKt} (h : gR l g cX12_reads RX12 6 none (gRm 5 111) none ν K) {y1 : Int32} {y3 : Int32} {y4 : Int32} {μ : gM} (hf : fX12_reads_n142 y1 y3 y4 μ = some ν) : K 142 [some (.ref (g.1 + 267)), some (.int y1), none, some (.int y3), some (.int y4), none] [] μ := by
  unfold fX12_reads_n142 at hf
  refine zr_aload_n (pc := 142) h dX12_reads_142 rfl rfl ?_
  refine zf_X12_27 (pc := 143) h gkc_267 dX12_reads_143 ?_
  refine zr_iconst (pc := 146) (v := (0 : Int32)) h dX12_reads_146 (by decide) ?_
  refine zr_iald (pc := 147) (q := 0) h gkc_272 rfl (by decide) dX12_reads_147 ?_
  refine zr_aload_n (pc := 148) h dX12_reads_148 rfl rfl ?_
  refine zf_X12_27 (pc := 149) h gkc_267 dX12_reads_149 ?_
  refine zr_bipush (pc := 152) (v := (100 : Int32)) h dX12_reads_152 (by decide) ?_
  refine zr_iload (pc := 154) h dX12_reads_154 rfl ?_
  refine zr_iadd (pc := 156) h dX12_reads_156 ?_
  obtain ⟨q13, hf⟩ := zCk_s hf
  refine zr_iald (pc := 157) h gkc_272 q13 rfl dX12_reads_157 ?_
  refine zr_iconst (pc := 158) (v := (1 : Int32)) h dX12_reads_158 (by decide) ?_
  refine zr_isub (pc := 159) h dX12_reads_159 ?_
  refine zr_isub (pc := 160) h dX12_reads_160 ?_
  refine zr_aload_n (pc := 161) h dX12_reads_161 rfl rfl ?_
  refine zf_X12_17 (pc := 162) h gkc_267 dX12_reads_162 ?_
  refine zr_bipush (pc := 165) (v := (33 : Int32)) h dX12_reads_165 (by decide) ?_
  refine zr_iload_n (pc := 167) h dX12_reads_167 rfl rfl ?_
  refine zr_iadd (pc := 168) h dX12_reads_168 ?_
  obtain ⟨q14, hf⟩ := zCk_s hf
  refine zr_iald (pc := 169) h gkc_269 q14 rfl dX12_reads_169 ?_
  have hf := zIf_s hf
  refine zr_icmp_lt (pc := 170) (tgt := 182) h dX12_reads_170 rfl (fun b19 => ?_) (fun b19 => ?_)
  · have hf := hf.1 b19
    refine zr_aload_n (pc := 182) h dX12_reads_182 rfl rfl ?_
    refine zf_X12_27 (pc := 183) h gkc_267 dX12_reads_183 ?_
    refine zr_bipush (pc := 186) (v := (70 : Int32)) h dX12_reads_186 (by decide) ?_
    refine zr_iload (pc := 188) h dX12_reads_188 rfl ?_
    refine zr_iadd (pc := 190) h dX12_reads_190 ?_
    refine zr_aload_n (pc := 191) h dX12_reads_191 rfl rfl ?_
    refine zr_iload_n (pc := 192) h dX12_reads_192 rfl rfl ?_
    refine zr_iload_n (pc := 193) h dX12_reads_193 rfl rfl ?_
    obtain ⟨x15, ex15, hf⟩ := zBd_s hf
    refine zm_X12_277 (pc := 194) h gkc_267 ⟨by decide, by decide⟩ (cX12_patienceOf_ok ex15) rfl (Nat.le_of_ble_eq_true rfl) dX12_reads_194 rfl ?_
    obtain ⟨q16, hf⟩ := zCk_s hf
    refine zr_iast (pc := 197) h gkc_272 q16 rfl dX12_reads_197 ?_
    refine zr_mu h (fun μ17 eμ17 => ?_)
    have hf := zLt_s eμ17 hf
    exact zr_vret (pc := 198) h dX12_reads_198 rfl (zRv hf)
  · have hf := hf.2 b19
    refine zr_aload_n (pc := 173) h dX12_reads_173 rfl rfl ?_
    refine zr_iload_n (pc := 174) h dX12_reads_174 rfl rfl ?_
    refine zr_iload_n (pc := 175) h dX12_reads_175 rfl rfl ?_
    obtain ⟨μ18, eμ18, hf⟩ := zBd_s hf
    refine zm_X12_290 (pc := 176) h gkc_267 ⟨by decide, by decide⟩ (cX12_toHold_ok eμ18) rfl (Nat.le_of_ble_eq_true rfl) dX12_reads_176 rfl ?_
    refine zr_goto (pc := 179) (tgt := 198) h dX12_reads_179 rfl ?_
    exact zr_vret (pc := 198) h dX12_reads_198 rfl (zRv hf)

set_option maxRecDepth 100000 in
set_option maxHeartbeats 4000000 in
theorem cX12_reads_ok {l : Launch} {g : gG} {a1 : Int32} {a2 : Int32} {a3 : Int32} {μ : gM} {ν : gM} (hf : fX12_reads a1 a2 a3 μ = some ν) : gMet l g yX12_reads cX12_reads 6 none 5 111 [.ref (g.1 + 267), .int a1, .int a2, .int a3] μ none ν := by
  refine gMet_of (gIni [.ref (g.1 + 267), .int a1, .int a2, .int a3] ++ List.replicate 2 none) (by decide) (gIni_ok _ _) (Nat.le_of_ble_eq_true rfl) (fun K h => ?_)
  show K 0 [some (.ref (g.1 + 267)), some (.int a1), some (.int a2), some (.int a3), none, none] [] μ
  unfold fX12_reads at hf
  refine zr_iload_n (pc := 0) h dX12_reads_0 rfl rfl ?_
  refine zr_iload_n (pc := 1) h dX12_reads_1 rfl rfl ?_
  obtain ⟨x1, ex1, hf⟩ := zBd_s hf
  refine zm_X12_190 (pc := 2) h ⟨by decide, by decide⟩ (cX12_of_ok ex1) rfl (Nat.le_of_ble_eq_true rfl) dX12_reads_2 rfl ?_
  refine zr_istore (pc := 5) h dX12_reads_5 (by decide) rfl ?_
  refine zr_aload_n (pc := 7) h dX12_reads_7 rfl rfl ?_
  refine zf_X12_37 (pc := 8) h gkc_267 dX12_reads_8 ?_
  refine zr_iload_n (pc := 11) h dX12_reads_11 rfl rfl ?_
  obtain ⟨q2, hf⟩ := zCk_s hf
  refine zr_iald (pc := 12) h gkc_275 q2 rfl dX12_reads_12 ?_
  refine zr_iload_n (pc := 13) h dX12_reads_13 rfl rfl ?_
  refine zr_aload_n (pc := 14) h dX12_reads_14 rfl rfl ?_
  refine zr_iload_n (pc := 15) h dX12_reads_15 rfl rfl ?_
  refine zr_iload_n (pc := 16) h dX12_reads_16 rfl rfl ?_
  obtain ⟨x3, ex3, hf⟩ := zBd_s hf
  refine zm_X12_268 (pc := 17) h gkc_267 ⟨by decide, by decide⟩ (cX12_wordOf_ok ex3) rfl (Nat.le_of_ble_eq_true rfl) dX12_reads_17 rfl ?_
  refine zr_iload_n (pc := 20) h dX12_reads_20 rfl rfl ?_
  obtain ⟨x4, ex4, hf⟩ := zBd_s hf
  refine zm_X12_325 (pc := 21) h ⟨by decide, by decide⟩ (cX12_isStronger_ok ex4) rfl (Nat.le_of_ble_eq_true rfl) dX12_reads_21 rfl ?_
  refine zr_istore (pc := 24) h dX12_reads_24 (by decide) rfl ?_
  refine zr_aload_n (pc := 26) h dX12_reads_26 rfl rfl ?_
  refine zr_iload_n (pc := 27) h dX12_reads_27 rfl rfl ?_
  refine zr_iload_n (pc := 28) h dX12_reads_28 rfl rfl ?_
  obtain ⟨x5, ex5, hf⟩ := zBd_s hf
  refine zm_X12_299 (pc := 29) h gkc_267 ⟨by decide, by decide⟩ (cX12_doesHold_ok ex5) rfl (Nat.le_of_ble_eq_true rfl) dX12_reads_29 rfl ?_
  have hf := zIf_s hf
  refine zr_if_eq (pc := 32) (tgt := 65) h dX12_reads_32 rfl (fun b29 => ?_) (fun b29 => ?_)
  · have hf := hf.1 b29
    refine zr_iload (pc := 65) h dX12_reads_65 rfl ?_
    have hf := zIf_s hf
    refine zr_if_ne (pc := 67) (tgt := 83) h dX12_reads_67 rfl (fun b24 => ?_) (fun b24 => ?_)
    · have hf := hf.2 b24
      exact zr_weak h [true, true, false, true, true, false] (fX12_reads_n83_ok h hf)
    · have hf := hf.1 b24
      refine zr_aload_n (pc := 70) h dX12_reads_70 rfl rfl ?_
      refine zf_X12_17 (pc := 71) h gkc_267 dX12_reads_71 ?_
      refine zr_bipush (pc := 74) (v := (38 : Int32)) h dX12_reads_74 (by decide) ?_
      refine zr_iload_n (pc := 76) h dX12_reads_76 rfl rfl ?_
      refine zr_iadd (pc := 77) h dX12_reads_77 ?_
      obtain ⟨q11, hf⟩ := zCk_s hf
      refine zr_iald (pc := 78) h gkc_269 q11 rfl dX12_reads_78 ?_
      refine zr_iconst (pc := 79) (v := (1 : Int32)) h dX12_reads_79 (by decide) ?_
      have hf := zIf_s hf
      refine zr_icmp_ne (pc := 80) (tgt := 111) h dX12_reads_80 rfl (fun b23 => ?_) (fun b23 => ?_)
      · have hf := hf.2 b23
        refine zr_aload_n (pc := 111) h dX12_reads_111 rfl rfl ?_
        refine zf_X12_27 (pc := 112) h gkc_267 dX12_reads_112 ?_
        refine zr_bipush (pc := 115) (v := (100 : Int32)) h dX12_reads_115 (by decide) ?_
        refine zr_iload (pc := 117) h dX12_reads_117 rfl ?_
        refine zr_iadd (pc := 119) h dX12_reads_119 ?_
        obtain ⟨q12, hf⟩ := zCk_s hf
        refine zr_iald (pc := 120) h gkc_272 q12 rfl dX12_reads_120 ?_
        have hf := zIf_s hf
        refine zr_if_ne (pc := 121) (tgt := 142) h dX12_reads_121 rfl (fun b22 => ?_) (fun b22 => ?_)
        · have hf := hf.2 b22
          exact zr_weak h [true, true, false, true, true, false] (fX12_reads_n142_ok h hf)
        · have hf := hf.1 b22
          refine zr_aload_n (pc := 124) h dX12_reads_124 rfl rfl ?_
          refine zf_X12_27 (pc := 125) h gkc_267 dX12_reads_125 ?_
          refine zr_bipush (pc := 128) (v := (100 : Int32)) h dX12_reads_128 (by decide) ?_
          refine zr_iload (pc := 130) h dX12_reads_130 rfl ?_
          refine zr_iadd (pc := 132) h dX12_reads_132 ?_
          refine zr_aload_n (pc := 133) h dX12_reads_133 rfl rfl ?_
          refine zf_X12_27 (pc := 134) h gkc_267 dX12_reads_134 ?_
          refine zr_iconst (pc := 137) (v := (0 : Int32)) h dX12_reads_137 (by decide) ?_
          refine zr_iald (pc := 138) (q := 0) h gkc_272 rfl (by decide) dX12_reads_138 ?_
          refine zr_iconst (pc := 139) (v := (1 : Int32)) h dX12_reads_139 (by decide) ?_
          refine zr_iadd (pc := 140) h dX12_reads_140 ?_
          obtain ⟨q20, hf⟩ := zCk_s hf
          refine zr_iast (pc := 141) h gkc_272 q20 rfl dX12_reads_141 ?_
          refine zr_mu h (fun μ21 eμ21 => ?_)
          have hf := zLt_s eμ21 hf
          exact zr_weak h [true, true, false, true, true, false] (fX12_reads_n142_ok h hf)
      · have hf := hf.1 b23
        exact zr_weak h [true, true, false, true, true, false] (fX12_reads_n83_ok h hf)
  · have hf := hf.2 b29
    refine zr_iload (pc := 35) h dX12_reads_35 rfl ?_
    have hf := zIf_s hf
    refine zr_if_ne (pc := 37) (tgt := 41) h dX12_reads_37 rfl (fun b28 => ?_) (fun b28 => ?_)
    · have hf := hf.2 b28
      refine zr_aload_n (pc := 41) h dX12_reads_41 rfl rfl ?_
      refine zr_dup (pc := 42) h dX12_reads_42 rfl ?_
      refine zf_X12_280 (pc := 43) h gkc_267 dX12_reads_43 ?_
      refine zr_iconst (pc := 46) (v := (1 : Int32)) h dX12_reads_46 (by decide) ?_
      refine zr_iadd (pc := 47) h dX12_reads_47 ?_
      refine zp_X12_280 (pc := 48) h gkc_267 dX12_reads_48 ?_
      refine zr_mu h (fun μ25 eμ25 => ?_)
      have hf := zLt_s eμ25 hf
      refine zr_aload_n (pc := 51) h dX12_reads_51 rfl rfl ?_
      refine zr_iload_n (pc := 52) h dX12_reads_52 rfl rfl ?_
      refine zr_iload_n (pc := 53) h dX12_reads_53 rfl rfl ?_
      obtain ⟨μ26, eμ26, hf⟩ := zBd_s hf
      refine zm_X12_293 (pc := 54) h gkc_267 ⟨by decide, by decide⟩ (cX12_toWait_ok eμ26) rfl (Nat.le_of_ble_eq_true rfl) dX12_reads_54 rfl ?_
      refine zr_aload_n (pc := 57) h dX12_reads_57 rfl rfl ?_
      refine zr_iload_n (pc := 58) h dX12_reads_58 rfl rfl ?_
      refine zr_iload_n (pc := 59) h dX12_reads_59 rfl rfl ?_
      refine zr_iconst (pc := 60) (v := (1 : Int32)) h dX12_reads_60 (by decide) ?_
      obtain ⟨μ27, eμ27, hf⟩ := zBd_s hf
      refine zm_X12_283 (pc := 61) h gkc_267 ⟨by decide, by decide⟩ (cX12_logs_ok eμ27) rfl (Nat.le_of_ble_eq_true rfl) dX12_reads_61 rfl ?_
      exact zr_vret (pc := 64) h dX12_reads_64 rfl (zRv hf)
    · have hf := hf.1 b28
      exact zr_vret (pc := 40) h dX12_reads_40 rfl (zRv hf)

set_option maxRecDepth 100000 in
set_option maxHeartbeats 4000000 in
theorem fX12_groupGoes_l118_ok {l : Launch} {g : gG} {k96 : Int32 → Int32 → gM → Option gM} {ν : gM} {K : gKt} (h : gR l g cX12_groupGoes RX12 4 none (gRm 6 136) none ν K) (hk96 : ∀ (y1 : Int32) (y2 : Int32) (ν1 : gM), k96 y1 y2 ν1 = some ν → K 96 [some (.ref (g.1 + 267)), some (.int y1), some (.int y2), none] [] ν1) : ∀ (n : Nat) (y1 : Int32) (y2 : Int32) (y3 : Int32) (μ : gM), fX12_groupGoes_l118 k96 n y1 y2 y3 μ = some ν → K 118 [some (.ref (g.1 + 267)), some (.int y1), some (.int y2), some (.int y3)] [] μ := by
  intro n
  induction n with
  | zero =>
    intro y1 y2 y3 μ hf
    cases (show (none : Option gM) = some _ from hf)
  | succ n ih =>
    intro y1 y2 y3 μ hf
    unfold fX12_groupGoes_l118 at hf
    refine zr_iload_n (pc := 118) h dX12_groupGoes_118 rfl rfl ?_
    refine zr_aload_n (pc := 119) h dX12_groupGoes_119 rfl rfl ?_
    obtain ⟨x5, ex5, hf⟩ := zBd_s hf
    refine zm_X12_256 (pc := 120) h gkc_267 ⟨by decide, by decide⟩ (cX12_gates_ok ex5) rfl (Nat.le_of_ble_eq_true rfl) dX12_groupGoes_120 rfl ?_
    have hf := zIf_s hf
    refine zr_icmp_ge (pc := 123) (tgt := 176) h dX12_groupGoes_123 rfl (fun b22 => ?_) (fun b22 => ?_)
    · have hf := hf.1 b22
      refine zr_iincx (pc := 176) h dX12_groupGoes_176 rfl (by decide) rfl (c := (1 : Int32)) (by decide) (fun x6 ex6 => ?_)
      have hf := zLt_s ex6 hf
      refine zr_goto (pc := 179) (tgt := 96) h dX12_groupGoes_179 rfl ?_
      exact zr_weak h [true, true, true, false] (hk96 _ _ _ hf)
    · have hf := hf.2 b22
      refine zr_iload_n (pc := 126) h dX12_groupGoes_126 rfl rfl ?_
      refine zr_iload_n (pc := 127) h dX12_groupGoes_127 rfl rfl ?_
      have hf := zIf_s hf
      refine zr_icmp_eq (pc := 128) (tgt := 170) h dX12_groupGoes_128 rfl (fun b21 => ?_) (fun b21 => ?_)
      · have hf := hf.1 b21
        refine zr_iincx (pc := 170) h dX12_groupGoes_170 rfl (by decide) rfl (c := (1 : Int32)) (by decide) (fun x7 ex7 => ?_)
        have hf := zLt_s ex7 hf
        refine zr_goto (pc := 173) (tgt := 118) h dX12_groupGoes_173 rfl ?_
        exact zr_weak h [true, true, true, true] (ih _ _ _ _ hf)
      · have hf := hf.2 b21
        refine zr_aload_n (pc := 131) h dX12_groupGoes_131 rfl rfl ?_
        refine zf_X12_27 (pc := 132) h gkc_267 dX12_groupGoes_132 ?_
        refine zr_bipush (pc := 135) (v := (40 : Int32)) h dX12_groupGoes_135 (by decide) ?_
        refine zr_iload_n (pc := 137) h dX12_groupGoes_137 rfl rfl ?_
        refine zr_iload_n (pc := 138) h dX12_groupGoes_138 rfl rfl ?_
        obtain ⟨x8, ex8, hf⟩ := zBd_s hf
        refine zm_X12_190 (pc := 139) h ⟨by decide, by decide⟩ (cX12_of_ok ex8) rfl (Nat.le_of_ble_eq_true rfl) dX12_groupGoes_139 rfl ?_
        refine zr_iadd (pc := 142) h dX12_groupGoes_142 ?_
        obtain ⟨q9, hf⟩ := zCk_s hf
        refine zr_iald (pc := 143) h gkc_272 q9 rfl dX12_groupGoes_143 ?_
        have hf := zIf_s hf
        refine zr_if_eq (pc := 144) (tgt := 170) h dX12_groupGoes_144 rfl (fun b20 => ?_) (fun b20 => ?_)
        · have hf := hf.1 b20
          refine zr_iincx (pc := 170) h dX12_groupGoes_170 rfl (by decide) rfl (c := (1 : Int32)) (by decide) (fun x10 ex10 => ?_)
          have hf := zLt_s ex10 hf
          refine zr_goto (pc := 173) (tgt := 118) h dX12_groupGoes_173 rfl ?_
          exact zr_weak h [true, true, true, true] (ih _ _ _ _ hf)
        · have hf := hf.2 b20
          refine zr_aload_n (pc := 147) h dX12_groupGoes_147 rfl rfl ?_
          refine zr_iload_n (pc := 148) h dX12_groupGoes_148 rfl rfl ?_
          refine zr_iload_n (pc := 149) h dX12_groupGoes_149 rfl rfl ?_
          obtain ⟨x11, ex11, hf⟩ := zBd_s hf
          refine zm_X12_296 (pc := 150) h gkc_267 ⟨by decide, by decide⟩ (cX12_areTogether_ok ex11) rfl (Nat.le_of_ble_eq_true rfl) dX12_groupGoes_150 rfl ?_
          have hf := zIf_s hf
          refine zr_if_eq (pc := 153) (tgt := 170) h dX12_groupGoes_153 rfl (fun b19 => ?_) (fun b19 => ?_)
          · have hf := hf.1 b19
            refine zr_iincx (pc := 170) h dX12_groupGoes_170 rfl (by decide) rfl (c := (1 : Int32)) (by decide) (fun x12 ex12 => ?_)
            have hf := zLt_s ex12 hf
            refine zr_goto (pc := 173) (tgt := 118) h dX12_groupGoes_173 rfl ?_
            exact zr_weak h [true, true, true, true] (ih _ _ _ _ hf)
          · have hf := hf.2 b19
            refine zr_aload_n (pc := 156) h dX12_groupGoes_156 rfl rfl ?_
            obtain ⟨x13, μ14, ex13, hf⟩ := zBp_s hf
            refine zm_X12_332 (pc := 157) h gkc_267 ⟨by decide, by decide⟩ (cX12_isLost_ok ex13) rfl (Nat.le_of_ble_eq_true rfl) dX12_groupGoes_157 rfl ?_
            have hf := zIf_s hf
            refine zr_if_ne (pc := 160) (tgt := 170) h dX12_groupGoes_160 rfl (fun b18 => ?_) (fun b18 => ?_)
            · have hf := hf.2 b18
              refine zr_iincx (pc := 170) h dX12_groupGoes_170 rfl (by decide) rfl (c := (1 : Int32)) (by decide) (fun x15 ex15 => ?_)
              have hf := zLt_s ex15 hf
              refine zr_goto (pc := 173) (tgt := 118) h dX12_groupGoes_173 rfl ?_
              exact zr_weak h [true, true, true, true] (ih _ _ _ _ hf)
            · have hf := hf.1 b18
              refine zr_aload_n (pc := 163) h dX12_groupGoes_163 rfl rfl ?_
              refine zr_iload_n (pc := 164) h dX12_groupGoes_164 rfl rfl ?_
              refine zr_iload_n (pc := 165) h dX12_groupGoes_165 rfl rfl ?_
              refine zr_iload_n (pc := 166) h dX12_groupGoes_166 rfl rfl ?_
              obtain ⟨μ16, eμ16, hf⟩ := zBd_s hf
              refine zm_X12_335 (pc := 167) h gkc_267 ⟨by decide, by decide⟩ (cX12_reads_ok eμ16) rfl (Nat.le_of_ble_eq_true rfl) dX12_groupGoes_167 rfl ?_
              refine zr_iincx (pc := 170) h dX12_groupGoes_170 rfl (by decide) rfl (c := (1 : Int32)) (by decide) (fun x17 ex17 => ?_)
              have hf := zLt_s ex17 hf
              refine zr_goto (pc := 173) (tgt := 118) h dX12_groupGoes_173 rfl ?_
              exact zr_weak h [true, true, true, true] (ih _ _ _ _ hf)

set_option maxRecDepth 100000 in
set_option maxHeartbeats 4000000 in
theorem fX12_groupGoes_l96_ok {l : Launch} {g : gG} {ν : gM} {K : gKt} (h : gR l g cX12_groupGoes RX12 4 none (gRm 6 136) none ν K) : ∀ (n : Nat) (y1 : Int32) (y2 : Int32) (μ : gM), fX12_groupGoes_l96 n y1 y2 μ = some ν → K 96 [some (.ref (g.1 + 267)), some (.int y1), some (.int y2), none] [] μ := by
  intro n
  induction n with
  | zero =>
    intro y1 y2 μ hf
    cases (show (none : Option gM) = some _ from hf)
  | succ n ih =>
    intro y1 y2 μ hf
    unfold fX12_groupGoes_l96 at hf
    refine zr_iload_n (pc := 96) h dX12_groupGoes_96 rfl rfl ?_
    refine zr_aload_n (pc := 97) h dX12_groupGoes_97 rfl rfl ?_
    obtain ⟨x3, ex3, hf⟩ := zBd_s hf
    refine zm_X12_256 (pc := 98) h gkc_267 ⟨by decide, by decide⟩ (cX12_gates_ok ex3) rfl (Nat.le_of_ble_eq_true rfl) dX12_groupGoes_98 rfl ?_
    have hf := zIf_s hf
    refine zr_icmp_ge (pc := 101) (tgt := 182) h dX12_groupGoes_101 rfl (fun b25 => ?_) (fun b25 => ?_)
    · have hf := hf.1 b25
      exact zr_vret (pc := 182) h dX12_groupGoes_182 rfl (zRv hf)
    · have hf := hf.2 b25
      refine zr_aload_n (pc := 104) h dX12_groupGoes_104 rfl rfl ?_
      refine zf_X12_37 (pc := 105) h gkc_267 dX12_groupGoes_105 ?_
      refine zr_iload_n (pc := 108) h dX12_groupGoes_108 rfl rfl ?_
      obtain ⟨q4, hf⟩ := zCk_s hf
      refine zr_iald (pc := 109) h gkc_275 q4 rfl dX12_groupGoes_109 ?_
      have hf := zIf_s hf
      refine zr_if_ne (pc := 110) (tgt := 116) h dX12_groupGoes_110 rfl (fun b24 => ?_) (fun b24 => ?_)
      · have hf := hf.2 b24
        refine zr_iconst (pc := 116) (v := (0 : Int32)) h dX12_groupGoes_116 (by decide) ?_
        refine zr_istore_n (pc := 117) h dX12_groupGoes_117 rfl (by decide) rfl ?_
        exact zr_weak h [true, true, true, true] (fX12_groupGoes_l118_ok h ih 100000 _ _ _ _ hf)
      · have hf := hf.1 b24
        refine zr_goto (pc := 113) (tgt := 176) h dX12_groupGoes_113 rfl ?_
        refine zr_iincx (pc := 176) h dX12_groupGoes_176 rfl (by decide) rfl (c := (1 : Int32)) (by decide) (fun x23 ex23 => ?_)
        have hf := zLt_s ex23 hf
        refine zr_goto (pc := 179) (tgt := 96) h dX12_groupGoes_179 rfl ?_
        exact zr_weak h [true, true, true, false] (ih _ _ _ hf)

set_option maxRecDepth 100000 in
set_option maxHeartbeats 4000000 in
theorem fX12_groupGoes_l47_ok {l : Launch} {g : gG} {ν : gM} {K : gKt} (h : gR l g cX12_groupGoes RX12 4 none (gRm 6 136) none ν K) : ∀ (n : Nat) (y1 : Int32) (y2 : Int32) (μ : gM), fX12_groupGoes_l47 n y1 y2 μ = some ν → K 47 [some (.ref (g.1 + 267)), some (.int y1), some (.int y2), none] [] μ := by
  intro n
  induction n with
  | zero =>
    intro y1 y2 μ hf
    cases (show (none : Option gM) = some _ from hf)
  | succ n ih =>
    intro y1 y2 μ hf
    unfold fX12_groupGoes_l47 at hf
    refine zr_iload_n (pc := 47) h dX12_groupGoes_47 rfl rfl ?_
    refine zr_aload_n (pc := 48) h dX12_groupGoes_48 rfl rfl ?_
    obtain ⟨x2, ex2, hf⟩ := zBd_s hf
    refine zm_X12_256 (pc := 49) h gkc_267 ⟨by decide, by decide⟩ (cX12_gates_ok ex2) rfl (Nat.le_of_ble_eq_true rfl) dX12_groupGoes_49 rfl ?_
    have hf := zIf_s hf
    refine zr_icmp_ge (pc := 52) (tgt := 94) h dX12_groupGoes_52 rfl (fun b36 => ?_) (fun b36 => ?_)
    · have hf := hf.1 b36
      refine zr_iconst (pc := 94) (v := (0 : Int32)) h dX12_groupGoes_94 (by decide) ?_
      refine zr_istore_n (pc := 95) h dX12_groupGoes_95 rfl (by decide) rfl ?_
      exact zr_weak h [true, true, true, false] (fX12_groupGoes_l96_ok h 100000 _ _ _ hf)
    · have hf := hf.2 b36
      refine zr_aload_n (pc := 55) h dX12_groupGoes_55 rfl rfl ?_
      refine zf_X12_27 (pc := 56) h gkc_267 dX12_groupGoes_56 ?_
      refine zr_bipush (pc := 59) (v := (40 : Int32)) h dX12_groupGoes_59 (by decide) ?_
      refine zr_iload_n (pc := 61) h dX12_groupGoes_61 rfl rfl ?_
      refine zr_iload_n (pc := 62) h dX12_groupGoes_62 rfl rfl ?_
      obtain ⟨x26, ex26, hf⟩ := zBd_s hf
      refine zm_X12_190 (pc := 63) h ⟨by decide, by decide⟩ (cX12_of_ok ex26) rfl (Nat.le_of_ble_eq_true rfl) dX12_groupGoes_63 rfl ?_
      refine zr_iadd (pc := 66) h dX12_groupGoes_66 ?_
      obtain ⟨q27, hf⟩ := zCk_s hf
      refine zr_iald (pc := 67) h gkc_272 q27 rfl dX12_groupGoes_67 ?_
      have hf := zIf_s hf
      refine zr_if_eq (pc := 68) (tgt := 88) h dX12_groupGoes_68 rfl (fun b35 => ?_) (fun b35 => ?_)
      · have hf := hf.1 b35
        refine zr_iincx (pc := 88) h dX12_groupGoes_88 rfl (by decide) rfl (c := (1 : Int32)) (by decide) (fun x28 ex28 => ?_)
        have hf := zLt_s ex28 hf
        refine zr_goto (pc := 91) (tgt := 47) h dX12_groupGoes_91 rfl ?_
        exact zr_weak h [true, true, true, false] (ih _ _ _ hf)
      · have hf := hf.2 b35
        refine zr_aload_n (pc := 71) h dX12_groupGoes_71 rfl rfl ?_
        refine zf_X12_27 (pc := 72) h gkc_267 dX12_groupGoes_72 ?_
        refine zr_bipush (pc := 75) (v := (70 : Int32)) h dX12_groupGoes_75 (by decide) ?_
        refine zr_iload_n (pc := 77) h dX12_groupGoes_77 rfl rfl ?_
        refine zr_iload_n (pc := 78) h dX12_groupGoes_78 rfl rfl ?_
        obtain ⟨x29, ex29, hf⟩ := zBd_s hf
        refine zm_X12_190 (pc := 79) h ⟨by decide, by decide⟩ (cX12_of_ok ex29) rfl (Nat.le_of_ble_eq_true rfl) dX12_groupGoes_79 rfl ?_
        refine zr_iadd (pc := 82) h dX12_groupGoes_82 ?_
        refine zr_topi h (fun x30 ex30 => ?_)
        have hf := zLt_s ex30 hf
        refine zr_dup2 (pc := 83) h dX12_groupGoes_83 rfl rfl ?_
        obtain ⟨q31, hf⟩ := zCk_s hf
        refine zr_iald (pc := 84) h gkc_272 q31 rfl dX12_groupGoes_84 ?_
        refine zr_iconst (pc := 85) (v := (1 : Int32)) h dX12_groupGoes_85 (by decide) ?_
        refine zr_isub (pc := 86) h dX12_groupGoes_86 ?_
        obtain ⟨q32, hf⟩ := zCk_s hf
        refine zr_iast (pc := 87) h gkc_272 q32 rfl dX12_groupGoes_87 ?_
        refine zr_mu h (fun μ33 eμ33 => ?_)
        have hf := zLt_s eμ33 hf
        refine zr_iincx (pc := 88) h dX12_groupGoes_88 rfl (by decide) rfl (c := (1 : Int32)) (by decide) (fun x34 ex34 => ?_)
        have hf := zLt_s ex34 hf
        refine zr_goto (pc := 91) (tgt := 47) h dX12_groupGoes_91 rfl ?_
        exact zr_weak h [true, true, true, false] (ih _ _ _ hf)

set_option maxRecDepth 100000 in
set_option maxHeartbeats 4000000 in
theorem fX12_groupGoes_l2_ok {l : Launch} {g : gG} {ν : gM} {K : gKt} (h : gR l g cX12_groupGoes RX12 4 none (gRm 6 136) none ν K) : ∀ (n : Nat) (y1 : Int32) (y2 : Int32) (μ : gM), fX12_groupGoes_l2 n y1 y2 μ = some ν → K 2 [some (.ref (g.1 + 267)), some (.int y1), some (.int y2), none] [] μ := by
  intro n
  induction n with
  | zero =>
    intro y1 y2 μ hf
    cases (show (none : Option gM) = some _ from hf)
  | succ n ih =>
    intro y1 y2 μ hf
    unfold fX12_groupGoes_l2 at hf
    refine zr_iload_n (pc := 2) h dX12_groupGoes_2 rfl rfl ?_
    refine zr_aload_n (pc := 3) h dX12_groupGoes_3 rfl rfl ?_
    obtain ⟨x1, ex1, hf⟩ := zBd_s hf
    refine zm_X12_256 (pc := 4) h gkc_267 ⟨by decide, by decide⟩ (cX12_gates_ok ex1) rfl (Nat.le_of_ble_eq_true rfl) dX12_groupGoes_4 rfl ?_
    have hf := zIf_s hf
    refine zr_icmp_ge (pc := 7) (tgt := 45) h dX12_groupGoes_7 rfl (fun b45 => ?_) (fun b45 => ?_)
    · have hf := hf.1 b45
      refine zr_iconst (pc := 45) (v := (0 : Int32)) h dX12_groupGoes_45 (by decide) ?_
      refine zr_istore_n (pc := 46) h dX12_groupGoes_46 rfl (by decide) rfl ?_
      exact zr_weak h [true, true, true, false] (fX12_groupGoes_l47_ok h 100000 _ _ _ hf)
    · have hf := hf.2 b45
      refine zr_aload_n (pc := 10) h dX12_groupGoes_10 rfl rfl ?_
      refine zf_X12_37 (pc := 11) h gkc_267 dX12_groupGoes_11 ?_
      refine zr_iload_n (pc := 14) h dX12_groupGoes_14 rfl rfl ?_
      refine zr_iconst (pc := 15) (v := (0 : Int32)) h dX12_groupGoes_15 (by decide) ?_
      obtain ⟨q37, hf⟩ := zCk_s hf
      refine zr_iast (pc := 16) h gkc_275 q37 rfl dX12_groupGoes_16 ?_
      refine zr_mu h (fun μ38 eμ38 => ?_)
      have hf := zLt_s eμ38 hf
      refine zr_aload_n (pc := 17) h dX12_groupGoes_17 rfl rfl ?_
      refine zf_X12_27 (pc := 18) h gkc_267 dX12_groupGoes_18 ?_
      refine zr_bipush (pc := 21) (v := (40 : Int32)) h dX12_groupGoes_21 (by decide) ?_
      refine zr_iload_n (pc := 23) h dX12_groupGoes_23 rfl rfl ?_
      refine zr_iload_n (pc := 24) h dX12_groupGoes_24 rfl rfl ?_
      obtain ⟨x39, ex39, hf⟩ := zBd_s hf
      refine zm_X12_190 (pc := 25) h ⟨by decide, by decide⟩ (cX12_of_ok ex39) rfl (Nat.le_of_ble_eq_true rfl) dX12_groupGoes_25 rfl ?_
      refine zr_iadd (pc := 28) h dX12_groupGoes_28 ?_
      obtain ⟨q40, hf⟩ := zCk_s hf
      refine zr_iald (pc := 29) h gkc_272 q40 rfl dX12_groupGoes_29 ?_
      have hf := zIf_s hf
      refine zr_if_eq (pc := 30) (tgt := 39) h dX12_groupGoes_30 rfl (fun b44 => ?_) (fun b44 => ?_)
      · have hf := hf.1 b44
        refine zr_iincx (pc := 39) h dX12_groupGoes_39 rfl (by decide) rfl (c := (1 : Int32)) (by decide) (fun x41 ex41 => ?_)
        have hf := zLt_s ex41 hf
        refine zr_goto (pc := 42) (tgt := 2) h dX12_groupGoes_42 rfl ?_
        exact zr_weak h [true, true, true, false] (ih _ _ _ hf)
      · have hf := hf.2 b44
        refine zr_aload_n (pc := 33) h dX12_groupGoes_33 rfl rfl ?_
        refine zr_iload_n (pc := 34) h dX12_groupGoes_34 rfl rfl ?_
        refine zr_iload_n (pc := 35) h dX12_groupGoes_35 rfl rfl ?_
        obtain ⟨μ42, eμ42, hf⟩ := zBd_s hf
        refine zm_X12_329 (pc := 36) h gkc_267 ⟨by decide, by decide⟩ (cX12_sends_ok eμ42) rfl (Nat.le_of_ble_eq_true rfl) dX12_groupGoes_36 rfl ?_
        refine zr_iincx (pc := 39) h dX12_groupGoes_39 rfl (by decide) rfl (c := (1 : Int32)) (by decide) (fun x43 ex43 => ?_)
        have hf := zLt_s ex43 hf
        refine zr_goto (pc := 42) (tgt := 2) h dX12_groupGoes_42 rfl ?_
        exact zr_weak h [true, true, true, false] (ih _ _ _ hf)

set_option maxRecDepth 100000 in
set_option maxHeartbeats 4000000 in
theorem cX12_groupGoes_ok {l : Launch} {g : gG} {a1 : Int32} {μ : gM} {ν : gM} (hf : fX12_groupGoes a1 μ = some ν) : gMet l g yX12_groupGoes cX12_groupGoes 4 none 6 136 [.ref (g.1 + 267), .int a1] μ none ν := by
  refine gMet_of (gIni [.ref (g.1 + 267), .int a1] ++ List.replicate 2 none) (by decide) (gIni_ok _ _) (Nat.le_of_ble_eq_true rfl) (fun K h => ?_)
  show K 0 [some (.ref (g.1 + 267)), some (.int a1), none, none] [] μ
  unfold fX12_groupGoes at hf
  refine zr_iconst (pc := 0) (v := (0 : Int32)) h dX12_groupGoes_0 (by decide) ?_
  refine zr_istore_n (pc := 1) h dX12_groupGoes_1 rfl (by decide) rfl ?_
  exact zr_weak h [true, true, true, false] (fX12_groupGoes_l2_ok h 100000 _ _ _ hf)

set_option maxRecDepth 100000 in
set_option maxHeartbeats 4000000 in
theorem fX12_bitsOf_l5_ok {l : Launch} {g : gG} {r : Int32} {μe : gM} {K : gKt} (h : gR l g cX12_bitsOf RX12 5 (some .int) (gRm 1 21) (some (.int r)) μe K) : ∀ (n : Nat) (y1 : Int32) (y2 : Int32) (y3 : Int32) (y4 : Int32), fX12_bitsOf_l5 n y1 y2 y3 y4 μe = some r → K 5 [some (.ref (g.1 + 267)), some (.int y1), some (.int y2), some (.int y3), some (.int y4)] [] μe := by
  intro n
  induction n with
  | zero =>
    intro y1 y2 y3 y4 hf
    cases (show (none : Option Int32) = some _ from hf)
  | succ n ih =>
    intro y1 y2 y3 y4 hf
    unfold fX12_bitsOf_l5 at hf
    refine zr_iload (pc := 5) h dX12_bitsOf_5 rfl ?_
    refine zr_aload_n (pc := 7) h dX12_bitsOf_7 rfl rfl ?_
    obtain ⟨x1, ex1, hf⟩ := zBd_s hf
    refine zm_X12_256 (pc := 8) h gkc_267 ⟨by decide, by decide⟩ (cX12_gates_ok ex1) rfl (Nat.le_of_ble_eq_true rfl) dX12_bitsOf_8 rfl ?_
    have hf := zIf_s hf
    refine zr_icmp_ge (pc := 11) (tgt := 45) h dX12_bitsOf_11 rfl (fun b8 => ?_) (fun b8 => ?_)
    · have hf := hf.1 b8
      refine zr_iload_n (pc := 45) h dX12_bitsOf_45 rfl rfl ?_
      exact zr_iret (pc := 46) h dX12_bitsOf_46 (zRi hf) rfl
    · have hf := hf.2 b8
      refine zr_aload_n (pc := 14) h dX12_bitsOf_14 rfl rfl ?_
      refine zf_X12_27 (pc := 15) h gkc_267 dX12_bitsOf_15 ?_
      refine zr_bipush (pc := 18) (v := (40 : Int32)) h dX12_bitsOf_18 (by decide) ?_
      refine zr_iload_n (pc := 20) h dX12_bitsOf_20 rfl rfl ?_
      refine zr_iload (pc := 21) h dX12_bitsOf_21 rfl ?_
      obtain ⟨x2, ex2, hf⟩ := zBd_s hf
      refine zm_X12_190 (pc := 23) h ⟨by decide, by decide⟩ (cX12_of_ok ex2) rfl (Nat.le_of_ble_eq_true rfl) dX12_bitsOf_23 rfl ?_
      refine zr_iadd (pc := 26) h dX12_bitsOf_26 ?_
      obtain ⟨q3, hf⟩ := zCk_s hf
      refine zr_iald (pc := 27) h gkc_272 q3 rfl dX12_bitsOf_27 ?_
      refine zr_iload_n (pc := 28) h dX12_bitsOf_28 rfl rfl ?_
      have hf := zIf_s hf
      refine zr_icmp_lt (pc := 29) (tgt := 39) h dX12_bitsOf_29 rfl (fun b7 => ?_) (fun b7 => ?_)
      · have hf := hf.1 b7
        refine zr_iincx (pc := 39) h dX12_bitsOf_39 rfl (by decide) rfl (c := (1 : Int32)) (by decide) (fun x4 ex4 => ?_)
        have hf := zLt_s ex4 hf
        refine zr_goto (pc := 42) (tgt := 5) h dX12_bitsOf_42 rfl ?_
        exact zr_weak h [true, true, true, true, true] (ih _ _ _ _ hf)
      · have hf := hf.2 b7
        refine zr_iload_n (pc := 32) h dX12_bitsOf_32 rfl rfl ?_
        refine zr_iconst (pc := 33) (v := (1 : Int32)) h dX12_bitsOf_33 (by decide) ?_
        refine zr_iload (pc := 34) h dX12_bitsOf_34 rfl ?_
        refine zr_ishl (pc := 36) h dX12_bitsOf_36 ?_
        refine zr_ior (pc := 37) h dX12_bitsOf_37 ?_
        refine zr_topi h (fun x5 ex5 => ?_)
        have hf := zLt_s ex5 hf
        refine zr_istore_n (pc := 38) h dX12_bitsOf_38 rfl (by decide) rfl ?_
        refine zr_iincx (pc := 39) h dX12_bitsOf_39 rfl (by decide) rfl (c := (1 : Int32)) (by decide) (fun x6 ex6 => ?_)
        have hf := zLt_s ex6 hf
        refine zr_goto (pc := 42) (tgt := 5) h dX12_bitsOf_42 rfl ?_
        exact zr_weak h [true, true, true, true, true] (ih _ _ _ _ hf)

set_option maxRecDepth 100000 in
set_option maxHeartbeats 4000000 in
theorem cX12_bitsOf_ok {l : Launch} {g : gG} {a1 : Int32} {a2 : Int32} {μ : gM} {r : Int32} (hf : fX12_bitsOf a1 a2 μ = some r) : gMet l g yX12_bitsOf cX12_bitsOf 5 (some .int) 1 21 [.ref (g.1 + 267), .int a1, .int a2] μ (some (.int r)) μ := by
  refine gMet_of (gIni [.ref (g.1 + 267), .int a1, .int a2] ++ List.replicate 2 none) (by decide) (gIni_ok _ _) (Nat.le_of_ble_eq_true rfl) (fun K h => ?_)
  show K 0 [some (.ref (g.1 + 267)), some (.int a1), some (.int a2), none, none] [] μ
  unfold fX12_bitsOf at hf
  refine zr_iconst (pc := 0) (v := (0 : Int32)) h dX12_bitsOf_0 (by decide) ?_
  refine zr_istore_n (pc := 1) h dX12_bitsOf_1 rfl (by decide) rfl ?_
  refine zr_iconst (pc := 2) (v := (0 : Int32)) h dX12_bitsOf_2 (by decide) ?_
  refine zr_istore (pc := 3) h dX12_bitsOf_3 (by decide) rfl ?_
  exact zr_weak h [true, true, true, true, true] (fX12_bitsOf_l5_ok h 100000 _ _ _ _ hf)

set_option maxRecDepth 100000 in
set_option maxHeartbeats 4000000 in
theorem fX12_bits_l4_ok {l : Launch} {g : gG} {r : Int32} {μe : gM} {K : gKt} (h : gR l g cX12_bits RX12 3 (some .int) (gRm 0 0) (some (.int r)) μe K) : ∀ (n : Nat) (y1 : Int32) (y2 : Int32), fX12_bits_l4 n y1 y2 μe = some r → K 4 [none, some (.int y1), some (.int y2)] [] μe := by
  intro n
  induction n with
  | zero =>
    intro y1 y2 hf
    cases (show (none : Option Int32) = some _ from hf)
  | succ n ih =>
    intro y1 y2 hf
    unfold fX12_bits_l4 at hf
    refine zr_iload_n (pc := 4) h dX12_bits_4 rfl rfl ?_
    have hf := zIf_s hf
    refine zr_if_eq (pc := 5) (tgt := 20) h dX12_bits_5 rfl (fun b3 => ?_) (fun b3 => ?_)
    · have hf := hf.1 b3
      refine zr_iload_n (pc := 20) h dX12_bits_20 rfl rfl ?_
      exact zr_iret (pc := 21) h dX12_bits_21 (zRi hf) rfl
    · have hf := hf.2 b3
      refine zr_iincx (pc := 8) h dX12_bits_8 rfl (by decide) rfl (c := (1 : Int32)) (by decide) (fun x1 ex1 => ?_)
      have hf := zLt_s ex1 hf
      refine zr_iload_n (pc := 11) h dX12_bits_11 rfl rfl ?_
      refine zr_iload_n (pc := 12) h dX12_bits_12 rfl rfl ?_
      refine zr_iconst (pc := 13) (v := (1 : Int32)) h dX12_bits_13 (by decide) ?_
      refine zr_isub (pc := 14) h dX12_bits_14 ?_
      refine zr_iand (pc := 15) h dX12_bits_15 ?_
      refine zr_topi h (fun x2 ex2 => ?_)
      have hf := zLt_s ex2 hf
      refine zr_istore_n (pc := 16) h dX12_bits_16 rfl (by decide) rfl ?_
      refine zr_goto (pc := 17) (tgt := 4) h dX12_bits_17 rfl ?_
      exact zr_weak h [false, true, true] (ih _ _ hf)

set_option maxRecDepth 100000 in
set_option maxHeartbeats 4000000 in
theorem cX12_bits_ok {l : Launch} {g : gG} {a1 : Int32} {μ : gM} {r : Int32} (hf : fX12_bits a1 μ = some r) : gMet l g yX12_bits cX12_bits 3 (some .int) 0 0 [.int a1] μ (some (.int r)) μ := by
  refine gMet_of (gIni [.int a1] ++ List.replicate 2 none) (by decide) (gIni_ok _ _) (Nat.le_of_ble_eq_true rfl) (fun K h => ?_)
  show K 0 [some (.int a1), none, none] [] μ
  unfold fX12_bits at hf
  refine zr_iconst (pc := 0) (v := (0 : Int32)) h dX12_bits_0 (by decide) ?_
  refine zr_istore_n (pc := 1) h dX12_bits_1 rfl (by decide) rfl ?_
  refine zr_iload_n (pc := 2) h dX12_bits_2 rfl rfl ?_
  refine zr_istore_n (pc := 3) h dX12_bits_3 rfl (by decide) rfl ?_
  exact zr_weak h [false, true, true] (fX12_bits_l4_ok h 100000 _ _ hf)

set_option maxRecDepth 100000 in
set_option maxHeartbeats 4000000 in
theorem cX12_isOrphan_ok {l : Launch} {g : gG} {a1 : Int32} {μ : gM} {r : Int32} (hf : fX12_isOrphan a1 μ = some r) : gMet l g yX12_isOrphan cX12_isOrphan 2 (some .boolean) 2 45 [.ref (g.1 + 267), .int a1] μ (some (.int r)) μ := by
  refine gMet_of (gIni [.ref (g.1 + 267), .int a1] ++ List.replicate 0 none) (by decide) (gIni_ok _ _) (Nat.le_of_ble_eq_true rfl) (fun K h => ?_)
  show K 0 [some (.ref (g.1 + 267)), some (.int a1)] [] μ
  unfold fX12_isOrphan at hf
  refine zr_aload_n (pc := 0) h dX12_isOrphan_0 rfl rfl ?_
  refine zr_iload_n (pc := 1) h dX12_isOrphan_1 rfl rfl ?_
  refine zr_iconst (pc := 2) (v := (1 : Int32)) h dX12_isOrphan_2 (by decide) ?_
  obtain ⟨x1, ex1, hf⟩ := zBd_s hf
  refine zm_X12_338 (pc := 3) h gkc_267 ⟨by decide, by decide⟩ (cX12_bitsOf_ok ex1) rfl (Nat.le_of_ble_eq_true rfl) dX12_isOrphan_3 rfl ?_
  have hf := zIf_s hf
  refine zr_if_eq (pc := 6) (tgt := 22) h dX12_isOrphan_6 rfl (fun b4 => ?_) (fun b4 => ?_)
  · have hf := hf.1 b4
    refine zr_iconst (pc := 22) (v := (0 : Int32)) h dX12_isOrphan_22 (by decide) ?_
    exact zr_zret (pc := 23) h rfl dX12_isOrphan_23 (zRi hf) rfl
  · have hf := hf.2 b4
    refine zr_aload_n (pc := 9) h dX12_isOrphan_9 rfl rfl ?_
    refine zr_iload_n (pc := 10) h dX12_isOrphan_10 rfl rfl ?_
    refine zr_iconst (pc := 11) (v := (2 : Int32)) h dX12_isOrphan_11 (by decide) ?_
    obtain ⟨x2, ex2, hf⟩ := zBd_s hf
    refine zm_X12_338 (pc := 12) h gkc_267 ⟨by decide, by decide⟩ (cX12_bitsOf_ok ex2) rfl (Nat.le_of_ble_eq_true rfl) dX12_isOrphan_12 rfl ?_
    have hf := zIf_s hf
    refine zr_if_ne (pc := 15) (tgt := 22) h dX12_isOrphan_15 rfl (fun b3 => ?_) (fun b3 => ?_)
    · have hf := hf.2 b3
      refine zr_iconst (pc := 22) (v := (0 : Int32)) h dX12_isOrphan_22 (by decide) ?_
      exact zr_zret (pc := 23) h rfl dX12_isOrphan_23 (zRi hf) rfl
    · have hf := hf.1 b3
      refine zr_iconst (pc := 18) (v := (1 : Int32)) h dX12_isOrphan_18 (by decide) ?_
      refine zr_goto (pc := 19) (tgt := 23) h dX12_isOrphan_19 rfl ?_
      exact zr_zret (pc := 23) h rfl dX12_isOrphan_23 (zRi hf) rfl

set_option maxRecDepth 100000 in
set_option maxHeartbeats 4000000 in
theorem cX12_isDouble_ok {l : Launch} {g : gG} {a1 : Int32} {μ : gM} {r : Int32} (hf : fX12_isDouble a1 μ = some r) : gMet l g yX12_isDouble cX12_isDouble 3 (some .boolean) 2 45 [.ref (g.1 + 267), .int a1] μ (some (.int r)) μ := by
  refine gMet_of (gIni [.ref (g.1 + 267), .int a1] ++ List.replicate 1 none) (by decide) (gIni_ok _ _) (Nat.le_of_ble_eq_true rfl) (fun K h => ?_)
  show K 0 [some (.ref (g.1 + 267)), some (.int a1), none] [] μ
  unfold fX12_isDouble at hf
  refine zr_aload_n (pc := 0) h dX12_isDouble_0 rfl rfl ?_
  refine zr_iload_n (pc := 1) h dX12_isDouble_1 rfl rfl ?_
  refine zr_iconst (pc := 2) (v := (2 : Int32)) h dX12_isDouble_2 (by decide) ?_
  obtain ⟨x1, ex1, hf⟩ := zBd_s hf
  refine zm_X12_338 (pc := 3) h gkc_267 ⟨by decide, by decide⟩ (cX12_bitsOf_ok ex1) rfl (Nat.le_of_ble_eq_true rfl) dX12_isDouble_3 rfl ?_
  refine zr_istore_n (pc := 6) h dX12_isDouble_6 rfl (by decide) rfl ?_
  refine zr_iload_n (pc := 7) h dX12_isDouble_7 rfl rfl ?_
  refine zr_aload_n (pc := 8) h dX12_isDouble_8 rfl rfl ?_
  refine zf_X12_27 (pc := 9) h gkc_267 dX12_isDouble_9 ?_
  refine zr_iconst (pc := 12) (v := (3 : Int32)) h dX12_isDouble_12 (by decide) ?_
  refine zr_iald (pc := 13) (q := 3) h gkc_272 rfl (by decide) dX12_isDouble_13 ?_
  refine zr_iand (pc := 14) h dX12_isDouble_14 ?_
  obtain ⟨x2, ex2, hf⟩ := zBd_s hf
  refine zm_X12_341 (pc := 15) h ⟨by decide, by decide⟩ (cX12_bits_ok ex2) rfl (Nat.le_of_ble_eq_true rfl) dX12_isDouble_15 rfl ?_
  refine zr_iconst (pc := 18) (v := (1 : Int32)) h dX12_isDouble_18 (by decide) ?_
  have hf := zIf_s hf
  refine zr_icmp_gt (pc := 19) (tgt := 39) h dX12_isDouble_19 rfl (fun b5 => ?_) (fun b5 => ?_)
  · have hf := hf.1 b5
    refine zr_iconst (pc := 39) (v := (1 : Int32)) h dX12_isDouble_39 (by decide) ?_
    refine zr_goto (pc := 40) (tgt := 44) h dX12_isDouble_40 rfl ?_
    exact zr_zret (pc := 44) h rfl dX12_isDouble_44 (zRi hf) rfl
  · have hf := hf.2 b5
    refine zr_iload_n (pc := 22) h dX12_isDouble_22 rfl rfl ?_
    refine zr_aload_n (pc := 23) h dX12_isDouble_23 rfl rfl ?_
    refine zf_X12_27 (pc := 24) h gkc_267 dX12_isDouble_24 ?_
    refine zr_iconst (pc := 27) (v := (3 : Int32)) h dX12_isDouble_27 (by decide) ?_
    refine zr_iald (pc := 28) (q := 3) h gkc_272 rfl (by decide) dX12_isDouble_28 ?_
    refine zr_iconst (pc := 29) (v := (-1 : Int32)) h dX12_isDouble_29 (by decide) ?_
    refine zr_ixor (pc := 30) h dX12_isDouble_30 ?_
    refine zr_iand (pc := 31) h dX12_isDouble_31 ?_
    obtain ⟨x3, ex3, hf⟩ := zBd_s hf
    refine zm_X12_341 (pc := 32) h ⟨by decide, by decide⟩ (cX12_bits_ok ex3) rfl (Nat.le_of_ble_eq_true rfl) dX12_isDouble_32 rfl ?_
    refine zr_iconst (pc := 35) (v := (1 : Int32)) h dX12_isDouble_35 (by decide) ?_
    have hf := zIf_s hf
    refine zr_icmp_le (pc := 36) (tgt := 43) h dX12_isDouble_36 rfl (fun b4 => ?_) (fun b4 => ?_)
    · have hf := hf.1 b4
      refine zr_iconst (pc := 43) (v := (0 : Int32)) h dX12_isDouble_43 (by decide) ?_
      exact zr_zret (pc := 44) h rfl dX12_isDouble_44 (zRi hf) rfl
    · have hf := hf.2 b4
      refine zr_iconst (pc := 39) (v := (1 : Int32)) h dX12_isDouble_39 (by decide) ?_
      refine zr_goto (pc := 40) (tgt := 44) h dX12_isDouble_40 rfl ?_
      exact zr_zret (pc := 44) h rfl dX12_isDouble_44 (zRi hf) rfl

set_option maxRecDepth 100000 in
set_option maxHeartbeats 4000000 in
theorem fX12_tickGoes_l78_ok {l : Launch} {g : gG} {ν : gM} {K : gKt} (h : gR l g cX12_tickGoes RX12 2 none (gRm 7 159) none ν K) : ∀ (n : Nat) (y1 : Int32) (μ : gM), fX12_tickGoes_l78 n y1 μ = some ν → K 78 [some (.ref (g.1 + 267)), some (.int y1)] [] μ := by
  intro n
  induction n with
  | zero =>
    intro y1 μ hf
    cases (show (none : Option gM) = some _ from hf)
  | succ n ih =>
    intro y1 μ hf
    unfold fX12_tickGoes_l78 at hf
    refine zr_iload_n (pc := 78) h dX12_tickGoes_78 rfl rfl ?_
    refine zr_aload_n (pc := 79) h dX12_tickGoes_79 rfl rfl ?_
    obtain ⟨x3, ex3, hf⟩ := zBd_s hf
    refine zm_X12_253 (pc := 80) h gkc_267 ⟨by decide, by decide⟩ (cX12_groups_ok ex3) rfl (Nat.le_of_ble_eq_true rfl) dX12_tickGoes_80 rfl ?_
    have hf := zIf_s hf
    refine zr_icmp_ge (pc := 83) (tgt := 134) h dX12_tickGoes_83 rfl (fun b17 => ?_) (fun b17 => ?_)
    · have hf := hf.1 b17
      exact zr_vret (pc := 134) h dX12_tickGoes_134 rfl (zRv hf)
    · have hf := hf.2 b17
      refine zr_aload_n (pc := 86) h dX12_tickGoes_86 rfl rfl ?_
      refine zf_X12_27 (pc := 87) h gkc_267 dX12_tickGoes_87 ?_
      refine zr_sipush (pc := 90) (v := (130 : Int32)) h dX12_tickGoes_90 (by decide) ?_
      refine zr_iload_n (pc := 93) h dX12_tickGoes_93 rfl rfl ?_
      refine zr_iadd (pc := 94) h dX12_tickGoes_94 ?_
      refine zr_topi h (fun x4 ex4 => ?_)
      have hf := zLt_s ex4 hf
      refine zr_dup2 (pc := 95) h dX12_tickGoes_95 rfl rfl ?_
      obtain ⟨q5, hf⟩ := zCk_s hf
      refine zr_iald (pc := 96) h gkc_272 q5 rfl dX12_tickGoes_96 ?_
      refine zr_aload_n (pc := 97) h dX12_tickGoes_97 rfl rfl ?_
      refine zr_iload_n (pc := 98) h dX12_tickGoes_98 rfl rfl ?_
      obtain ⟨x6, ex6, hf⟩ := zBd_s hf
      refine zm_X12_350 (pc := 99) h gkc_267 ⟨by decide, by decide⟩ (cX12_isOrphan_ok ex6) rfl (Nat.le_of_ble_eq_true rfl) dX12_tickGoes_99 rfl ?_
      obtain ⟨x7, ex7, hf⟩ := zBd_s hf
      refine zm_X12_178 (pc := 102) h ⟨by decide, by decide⟩ (cX12_flag_ok ex7) rfl (Nat.le_of_ble_eq_true rfl) dX12_tickGoes_102 rfl ?_
      refine zr_iadd (pc := 105) h dX12_tickGoes_105 ?_
      obtain ⟨q8, hf⟩ := zCk_s hf
      refine zr_iast (pc := 106) h gkc_272 q8 rfl dX12_tickGoes_106 ?_
      refine zr_mu h (fun μ9 eμ9 => ?_)
      have hf := zLt_s eμ9 hf
      refine zr_aload_n (pc := 107) h dX12_tickGoes_107 rfl rfl ?_
      refine zf_X12_27 (pc := 108) h gkc_267 dX12_tickGoes_108 ?_
      refine zr_sipush (pc := 111) (v := (135 : Int32)) h dX12_tickGoes_111 (by decide) ?_
      refine zr_iload_n (pc := 114) h dX12_tickGoes_114 rfl rfl ?_
      refine zr_iadd (pc := 115) h dX12_tickGoes_115 ?_
      refine zr_topi h (fun x10 ex10 => ?_)
      have hf := zLt_s ex10 hf
      refine zr_dup2 (pc := 116) h dX12_tickGoes_116 rfl rfl ?_
      obtain ⟨q11, hf⟩ := zCk_s hf
      refine zr_iald (pc := 117) h gkc_272 q11 rfl dX12_tickGoes_117 ?_
      refine zr_aload_n (pc := 118) h dX12_tickGoes_118 rfl rfl ?_
      refine zr_iload_n (pc := 119) h dX12_tickGoes_119 rfl rfl ?_
      obtain ⟨x12, ex12, hf⟩ := zBd_s hf
      refine zm_X12_353 (pc := 120) h gkc_267 ⟨by decide, by decide⟩ (cX12_isDouble_ok ex12) rfl (Nat.le_of_ble_eq_true rfl) dX12_tickGoes_120 rfl ?_
      obtain ⟨x13, ex13, hf⟩ := zBd_s hf
      refine zm_X12_178 (pc := 123) h ⟨by decide, by decide⟩ (cX12_flag_ok ex13) rfl (Nat.le_of_ble_eq_true rfl) dX12_tickGoes_123 rfl ?_
      refine zr_iadd (pc := 126) h dX12_tickGoes_126 ?_
      obtain ⟨q14, hf⟩ := zCk_s hf
      refine zr_iast (pc := 127) h gkc_272 q14 rfl dX12_tickGoes_127 ?_
      refine zr_mu h (fun μ15 eμ15 => ?_)
      have hf := zLt_s eμ15 hf
      refine zr_iincx (pc := 128) h dX12_tickGoes_128 rfl (by decide) rfl (c := (1 : Int32)) (by decide) (fun x16 ex16 => ?_)
      have hf := zLt_s ex16 hf
      refine zr_goto (pc := 131) (tgt := 78) h dX12_tickGoes_131 rfl ?_
      exact zr_weak h [true, true] (ih _ _ hf)

set_option maxRecDepth 100000 in
set_option maxHeartbeats 4000000 in
theorem fX12_tickGoes_l47_ok {l : Launch} {g : gG} {ν : gM} {K : gKt} (h : gR l g cX12_tickGoes RX12 2 none (gRm 7 159) none ν K) : ∀ (n : Nat) (y1 : Int32) (μ : gM), fX12_tickGoes_l47 n y1 μ = some ν → K 47 [some (.ref (g.1 + 267)), some (.int y1)] [] μ := by
  intro n
  induction n with
  | zero =>
    intro y1 μ hf
    cases (show (none : Option gM) = some _ from hf)
  | succ n ih =>
    intro y1 μ hf
    unfold fX12_tickGoes_l47 at hf
    refine zr_iload_n (pc := 47) h dX12_tickGoes_47 rfl rfl ?_
    refine zr_aload_n (pc := 48) h dX12_tickGoes_48 rfl rfl ?_
    obtain ⟨x1, ex1, hf⟩ := zBd_s hf
    refine zm_X12_253 (pc := 49) h gkc_267 ⟨by decide, by decide⟩ (cX12_groups_ok ex1) rfl (Nat.le_of_ble_eq_true rfl) dX12_tickGoes_49 rfl ?_
    have hf := zIf_s hf
    refine zr_icmp_ge (pc := 52) (tgt := 66) h dX12_tickGoes_52 rfl (fun b20 => ?_) (fun b20 => ?_)
    · have hf := hf.1 b20
      refine zr_aload_n (pc := 66) h dX12_tickGoes_66 rfl rfl ?_
      refine zf_X12_27 (pc := 67) h gkc_267 dX12_tickGoes_67 ?_
      refine zr_iconst (pc := 70) (v := (0 : Int32)) h dX12_tickGoes_70 (by decide) ?_
      refine zr_dup2 (pc := 71) h dX12_tickGoes_71 rfl rfl ?_
      refine zr_iald (pc := 72) (q := 0) h gkc_272 rfl (by decide) dX12_tickGoes_72 ?_
      refine zr_iconst (pc := 73) (v := (1 : Int32)) h dX12_tickGoes_73 (by decide) ?_
      refine zr_iadd (pc := 74) h dX12_tickGoes_74 ?_
      refine zr_iast (pc := 75) (q := 0) h gkc_272 rfl (by decide) dX12_tickGoes_75 ?_
      refine zr_mu h (fun μ2 eμ2 => ?_)
      have hf := zLt_s eμ2 hf
      refine zr_iconst (pc := 76) (v := (0 : Int32)) h dX12_tickGoes_76 (by decide) ?_
      refine zr_istore_n (pc := 77) h dX12_tickGoes_77 rfl (by decide) rfl ?_
      exact zr_weak h [true, true] (fX12_tickGoes_l78_ok h 100000 _ _ hf)
    · have hf := hf.2 b20
      refine zr_aload_n (pc := 55) h dX12_tickGoes_55 rfl rfl ?_
      refine zr_iload_n (pc := 56) h dX12_tickGoes_56 rfl rfl ?_
      obtain ⟨μ18, eμ18, hf⟩ := zBd_s hf
      refine zm_X12_347 (pc := 57) h gkc_267 ⟨by decide, by decide⟩ (cX12_groupGoes_ok eμ18) rfl (Nat.le_of_ble_eq_true rfl) dX12_tickGoes_57 rfl ?_
      refine zr_iincx (pc := 60) h dX12_tickGoes_60 rfl (by decide) rfl (c := (1 : Int32)) (by decide) (fun x19 ex19 => ?_)
      have hf := zLt_s ex19 hf
      refine zr_goto (pc := 63) (tgt := 47) h dX12_tickGoes_63 rfl ?_
      exact zr_weak h [true, true] (ih _ _ hf)

set_option maxRecDepth 100000 in
set_option maxHeartbeats 4000000 in
theorem fX12_tickGoes_l2_ok {l : Launch} {g : gG} {ν : gM} {K : gKt} (h : gR l g cX12_tickGoes RX12 2 none (gRm 7 159) none ν K) : ∀ (n : Nat) (y1 : Int32) (μ : gM), fX12_tickGoes_l2 n y1 μ = some ν → K 2 [some (.ref (g.1 + 267)), some (.int y1)] [] μ := by
  intro n
  induction n with
  | zero =>
    intro y1 μ hf
    cases (show (none : Option gM) = some _ from hf)
  | succ n ih =>
    intro y1 μ hf
    unfold fX12_tickGoes_l2 at hf
    refine zr_iload_n (pc := 2) h dX12_tickGoes_2 rfl rfl ?_
    refine zr_aload_n (pc := 3) h dX12_tickGoes_3 rfl rfl ?_
    refine zf_X12_27 (pc := 4) h gkc_267 dX12_tickGoes_4 ?_
    refine zr_bipush (pc := 7) (v := (8 : Int32)) h dX12_tickGoes_7 (by decide) ?_
    refine zr_iald (pc := 9) (q := 8) h gkc_272 rfl (by decide) dX12_tickGoes_9 ?_
    have hf := zIf_s hf
    refine zr_icmp_ge (pc := 10) (tgt := 45) h dX12_tickGoes_10 rfl (fun b26 => ?_) (fun b26 => ?_)
    · have hf := hf.1 b26
      refine zr_iconst (pc := 45) (v := (0 : Int32)) h dX12_tickGoes_45 (by decide) ?_
      refine zr_istore_n (pc := 46) h dX12_tickGoes_46 rfl (by decide) rfl ?_
      exact zr_weak h [true, true] (fX12_tickGoes_l47_ok h 100000 _ _ hf)
    · have hf := hf.2 b26
      refine zr_aload_n (pc := 13) h dX12_tickGoes_13 rfl rfl ?_
      refine zf_X12_27 (pc := 14) h gkc_267 dX12_tickGoes_14 ?_
      refine zr_sipush (pc := 17) (v := (145 : Int32)) h dX12_tickGoes_17 (by decide) ?_
      refine zr_iconst (pc := 20) (v := (5 : Int32)) h dX12_tickGoes_20 (by decide) ?_
      refine zr_iload_n (pc := 21) h dX12_tickGoes_21 rfl rfl ?_
      refine zr_imul (pc := 22) h dX12_tickGoes_22 ?_
      refine zr_iadd (pc := 23) h dX12_tickGoes_23 ?_
      obtain ⟨q21, hf⟩ := zCk_s hf
      refine zr_iald (pc := 24) h gkc_272 q21 rfl dX12_tickGoes_24 ?_
      refine zr_aload_n (pc := 25) h dX12_tickGoes_25 rfl rfl ?_
      refine zf_X12_27 (pc := 26) h gkc_267 dX12_tickGoes_26 ?_
      refine zr_iconst (pc := 29) (v := (0 : Int32)) h dX12_tickGoes_29 (by decide) ?_
      refine zr_iald (pc := 30) (q := 0) h gkc_272 rfl (by decide) dX12_tickGoes_30 ?_
      have hf := zIf_s hf
      refine zr_icmp_ne (pc := 31) (tgt := 39) h dX12_tickGoes_31 rfl (fun b25 => ?_) (fun b25 => ?_)
      · have hf := hf.2 b25
        refine zr_iincx (pc := 39) h dX12_tickGoes_39 rfl (by decide) rfl (c := (1 : Int32)) (by decide) (fun x22 ex22 => ?_)
        have hf := zLt_s ex22 hf
        refine zr_goto (pc := 42) (tgt := 2) h dX12_tickGoes_42 rfl ?_
        exact zr_weak h [true, true] (ih _ _ hf)
      · have hf := hf.1 b25
        refine zr_aload_n (pc := 34) h dX12_tickGoes_34 rfl rfl ?_
        refine zr_iload_n (pc := 35) h dX12_tickGoes_35 rfl rfl ?_
        obtain ⟨μ23, eμ23, hf⟩ := zBd_s hf
        refine zm_X12_344 (pc := 36) h gkc_267 ⟨by decide, by decide⟩ (cX12_happens_ok eμ23) rfl (Nat.le_of_ble_eq_true rfl) dX12_tickGoes_36 rfl ?_
        refine zr_iincx (pc := 39) h dX12_tickGoes_39 rfl (by decide) rfl (c := (1 : Int32)) (by decide) (fun x24 ex24 => ?_)
        have hf := zLt_s ex24 hf
        refine zr_goto (pc := 42) (tgt := 2) h dX12_tickGoes_42 rfl ?_
        exact zr_weak h [true, true] (ih _ _ hf)

set_option maxRecDepth 100000 in
set_option maxHeartbeats 4000000 in
theorem cX12_tickGoes_ok {l : Launch} {g : gG} {μ : gM} {ν : gM} (hf : fX12_tickGoes μ = some ν) : gMet l g yX12_tickGoes cX12_tickGoes 2 none 7 159 [.ref (g.1 + 267)] μ none ν := by
  refine gMet_of (gIni [.ref (g.1 + 267)] ++ List.replicate 1 none) (by decide) (gIni_ok _ _) (Nat.le_of_ble_eq_true rfl) (fun K h => ?_)
  show K 0 [some (.ref (g.1 + 267)), none] [] μ
  unfold fX12_tickGoes at hf
  refine zr_iconst (pc := 0) (v := (0 : Int32)) h dX12_tickGoes_0 (by decide) ?_
  refine zr_istore_n (pc := 1) h dX12_tickGoes_1 rfl (by decide) rfl ?_
  exact zr_weak h [true, true] (fX12_tickGoes_l2_ok h 100000 _ _ hf)

set_option maxRecDepth 100000 in
set_option maxHeartbeats 4000000 in
theorem fX12_memberMany_l4_ok {l : Launch} {g : gG} {r : Int32} {μe : gM} {K : gKt} (h : gR l g cX12_memberMany RX12 3 (some .int) (gRm 1 22) (some (.int r)) μe K) : ∀ (n : Nat) (y1 : Int32) (y2 : Int32), fX12_memberMany_l4 n y1 y2 μe = some r → K 4 [some (.ref (g.1 + 267)), some (.int y1), some (.int y2)] [] μe := by
  intro n
  induction n with
  | zero =>
    intro y1 y2 hf
    cases (show (none : Option Int32) = some _ from hf)
  | succ n ih =>
    intro y1 y2 hf
    unfold fX12_memberMany_l4 at hf
    refine zr_iload_n (pc := 4) h dX12_memberMany_4 rfl rfl ?_
    refine zr_aload_n (pc := 5) h dX12_memberMany_5 rfl rfl ?_
    obtain ⟨x1, ex1, hf⟩ := zBd_s hf
    refine zm_X12_253 (pc := 6) h gkc_267 ⟨by decide, by decide⟩ (cX12_groups_ok ex1) rfl (Nat.le_of_ble_eq_true rfl) dX12_memberMany_6 rfl ?_
    have hf := zIf_s hf
    refine zr_icmp_ge (pc := 9) (tgt := 33) h dX12_memberMany_9 rfl (fun b6 => ?_) (fun b6 => ?_)
    · have hf := hf.1 b6
      refine zr_iload_n (pc := 33) h dX12_memberMany_33 rfl rfl ?_
      exact zr_iret (pc := 34) h dX12_memberMany_34 (zRi hf) rfl
    · have hf := hf.2 b6
      refine zr_iload_n (pc := 12) h dX12_memberMany_12 rfl rfl ?_
      refine zr_aload_n (pc := 13) h dX12_memberMany_13 rfl rfl ?_
      refine zf_X12_17 (pc := 14) h gkc_267 dX12_memberMany_14 ?_
      refine zr_bipush (pc := 17) (v := (48 : Int32)) h dX12_memberMany_17 (by decide) ?_
      refine zr_iload_n (pc := 19) h dX12_memberMany_19 rfl rfl ?_
      refine zr_iadd (pc := 20) h dX12_memberMany_20 ?_
      obtain ⟨q2, hf⟩ := zCk_s hf
      refine zr_iald (pc := 21) h gkc_269 q2 rfl dX12_memberMany_21 ?_
      obtain ⟨x3, ex3, hf⟩ := zBd_s hf
      refine zm_X12_341 (pc := 22) h ⟨by decide, by decide⟩ (cX12_bits_ok ex3) rfl (Nat.le_of_ble_eq_true rfl) dX12_memberMany_22 rfl ?_
      refine zr_iadd (pc := 25) h dX12_memberMany_25 ?_
      refine zr_topi h (fun x4 ex4 => ?_)
      have hf := zLt_s ex4 hf
      refine zr_istore_n (pc := 26) h dX12_memberMany_26 rfl (by decide) rfl ?_
      refine zr_iincx (pc := 27) h dX12_memberMany_27 rfl (by decide) rfl (c := (1 : Int32)) (by decide) (fun x5 ex5 => ?_)
      have hf := zLt_s ex5 hf
      refine zr_goto (pc := 30) (tgt := 4) h dX12_memberMany_30 rfl ?_
      exact zr_weak h [true, true, true] (ih _ _ hf)

set_option maxRecDepth 100000 in
set_option maxHeartbeats 4000000 in
theorem cX12_memberMany_ok {l : Launch} {g : gG} {μ : gM} {r : Int32} (hf : fX12_memberMany μ = some r) : gMet l g yX12_memberMany cX12_memberMany 3 (some .int) 1 22 [.ref (g.1 + 267)] μ (some (.int r)) μ := by
  refine gMet_of (gIni [.ref (g.1 + 267)] ++ List.replicate 2 none) (by decide) (gIni_ok _ _) (Nat.le_of_ble_eq_true rfl) (fun K h => ?_)
  show K 0 [some (.ref (g.1 + 267)), none, none] [] μ
  unfold fX12_memberMany at hf
  refine zr_iconst (pc := 0) (v := (0 : Int32)) h dX12_memberMany_0 (by decide) ?_
  refine zr_istore_n (pc := 1) h dX12_memberMany_1 rfl (by decide) rfl ?_
  refine zr_iconst (pc := 2) (v := (0 : Int32)) h dX12_memberMany_2 (by decide) ?_
  refine zr_istore_n (pc := 3) h dX12_memberMany_3 rfl (by decide) rfl ?_
  exact zr_weak h [true, true, true] (fX12_memberMany_l4_ok h 100000 _ _ hf)

set_option maxRecDepth 100000 in
set_option maxHeartbeats 4000000 in
theorem cX12_has_ok {l : Launch} {g : gG} {a1 : Int32} {μ : gM} {r : Int32} {ν : gM} (hf : fX12_has a1 μ = some (r, ν)) : gMet l g yX12_has cX12_has 2 (some .int) 2 44 [.ref (g.1 + 267), .int a1] μ (some (.int r)) ν := by
  refine gMet_of (gIni [.ref (g.1 + 267), .int a1] ++ List.replicate 0 none) (by decide) (gIni_ok _ _) (Nat.le_of_ble_eq_true rfl) (fun K h => ?_)
  show K 0 [some (.ref (g.1 + 267)), some (.int a1)] [] μ
  unfold fX12_has at hf
  refine zr_aload_n (pc := 0) h dX12_has_0 rfl rfl ?_
  refine zr_iconst (pc := 1) (v := (0 : Int32)) h dX12_has_1 (by decide) ?_
  refine zp_X12_46 (pc := 2) h gkc_267 dX12_has_2 ?_
  refine zr_mu h (fun μ1 eμ1 => ?_)
  have hf := zLt_s eμ1 hf
  refine zr_aload_n (pc := 5) h dX12_has_5 rfl rfl ?_
  refine zf_X12_224 (pc := 6) h gkc_267 dX12_has_6 ?_
  have hf := zIf_s hf
  refine zr_if_ne (pc := 9) (tgt := 14) h dX12_has_9 rfl (fun b21 => ?_) (fun b21 => ?_)
  · have hf := hf.2 b21
    refine zr_iload_n (pc := 14) h dX12_has_14 rfl rfl ?_
    have hf := zIf_s hf
    rcases Decidable.em (a1 = (0 : Int32)) with b2 | b2
    · have hf := hf.1 b2
      refine zr_tabIn (pc := 15) (tgt := 92) h dX12_has_15 (by rw [b2]; decide) (by rw [b2]; decide) (off := 77) (by rw [b2]; rfl) rfl ?_
      refine zr_aload_n (pc := 92) h dX12_has_92 rfl rfl ?_
      obtain ⟨x3, ex3, hf⟩ := zBd_s hf
      refine zm_X12_256 (pc := 93) h gkc_267 ⟨by decide, by decide⟩ (cX12_gates_ok ex3) rfl (Nat.le_of_ble_eq_true rfl) dX12_has_93 rfl ?_
      exact zr_iret (pc := 96) h dX12_has_96 (zRp hf).1 (zRp hf).2
    · have hf := hf.2 b2
      have hf := zIf_s hf
      rcases Decidable.em (a1 = (1 : Int32)) with b4 | b4
      · have hf := hf.1 b4
        refine zr_tabIn (pc := 15) (tgt := 97) h dX12_has_15 (by rw [b4]; decide) (by rw [b4]; decide) (off := 82) (by rw [b4]; rfl) rfl ?_
        refine zr_aload_n (pc := 97) h dX12_has_97 rfl rfl ?_
        refine zf_X12_17 (pc := 98) h gkc_267 dX12_has_98 ?_
        refine zr_iconst (pc := 101) (v := (1 : Int32)) h dX12_has_101 (by decide) ?_
        refine zr_iald (pc := 102) (q := 1) h gkc_269 rfl (by decide) dX12_has_102 ?_
        exact zr_iret (pc := 103) h dX12_has_103 (zRp hf).1 (zRp hf).2
      · have hf := hf.2 b4
        have hf := zIf_s hf
        rcases Decidable.em (a1 = (2 : Int32)) with b5 | b5
        · have hf := hf.1 b5
          refine zr_tabIn (pc := 15) (tgt := 104) h dX12_has_15 (by rw [b5]; decide) (by rw [b5]; decide) (off := 89) (by rw [b5]; rfl) rfl ?_
          refine zr_aload_n (pc := 104) h dX12_has_104 rfl rfl ?_
          obtain ⟨x6, ex6, hf⟩ := zBd_s hf
          refine zm_X12_253 (pc := 105) h gkc_267 ⟨by decide, by decide⟩ (cX12_groups_ok ex6) rfl (Nat.le_of_ble_eq_true rfl) dX12_has_105 rfl ?_
          exact zr_iret (pc := 108) h dX12_has_108 (zRp hf).1 (zRp hf).2
        · have hf := hf.2 b5
          have hf := zIf_s hf
          rcases Decidable.em (a1 = (3 : Int32)) with b7 | b7
          · have hf := hf.1 b7
            refine zr_tabIn (pc := 15) (tgt := 109) h dX12_has_15 (by rw [b7]; decide) (by rw [b7]; decide) (off := 94) (by rw [b7]; rfl) rfl ?_
            refine zr_aload_n (pc := 109) h dX12_has_109 rfl rfl ?_
            obtain ⟨x8, ex8, hf⟩ := zBd_s hf
            refine zm_X12_356 (pc := 110) h gkc_267 ⟨by decide, by decide⟩ (cX12_memberMany_ok ex8) rfl (Nat.le_of_ble_eq_true rfl) dX12_has_110 rfl ?_
            exact zr_iret (pc := 113) h dX12_has_113 (zRp hf).1 (zRp hf).2
          · have hf := hf.2 b7
            have hf := zIf_s hf
            rcases Decidable.em (a1 = (4 : Int32)) with b9 | b9
            · have hf := hf.1 b9
              refine zr_tabIn (pc := 15) (tgt := 114) h dX12_has_15 (by rw [b9]; decide) (by rw [b9]; decide) (off := 99) (by rw [b9]; rfl) rfl ?_
              refine zr_aload_n (pc := 114) h dX12_has_114 rfl rfl ?_
              refine zf_X12_17 (pc := 115) h gkc_267 dX12_has_115 ?_
              refine zr_iconst (pc := 118) (v := (3 : Int32)) h dX12_has_118 (by decide) ?_
              refine zr_iald (pc := 119) (q := 3) h gkc_269 rfl (by decide) dX12_has_119 ?_
              exact zr_iret (pc := 120) h dX12_has_120 (zRp hf).1 (zRp hf).2
            · have hf := hf.2 b9
              have hf := zIf_s hf
              rcases Decidable.em (a1 = (5 : Int32)) with b10 | b10
              · have hf := hf.1 b10
                refine zr_tabIn (pc := 15) (tgt := 121) h dX12_has_15 (by rw [b10]; decide) (by rw [b10]; decide) (off := 106) (by rw [b10]; rfl) rfl ?_
                refine zr_aload_n (pc := 121) h dX12_has_121 rfl rfl ?_
                refine zf_X12_27 (pc := 122) h gkc_267 dX12_has_122 ?_
                refine zr_iconst (pc := 125) (v := (0 : Int32)) h dX12_has_125 (by decide) ?_
                refine zr_iald (pc := 126) (q := 0) h gkc_272 rfl (by decide) dX12_has_126 ?_
                exact zr_iret (pc := 127) h dX12_has_127 (zRp hf).1 (zRp hf).2
              · have hf := hf.2 b10
                have hf := zIf_s hf
                rcases Decidable.em (a1 = (6 : Int32)) with b11 | b11
                · have hf := hf.1 b11
                  refine zr_tabIn (pc := 15) (tgt := 128) h dX12_has_15 (by rw [b11]; decide) (by rw [b11]; decide) (off := 113) (by rw [b11]; rfl) rfl ?_
                  refine zr_aload_n (pc := 128) h dX12_has_128 rfl rfl ?_
                  refine zf_X12_27 (pc := 129) h gkc_267 dX12_has_129 ?_
                  refine zr_iconst (pc := 132) (v := (1 : Int32)) h dX12_has_132 (by decide) ?_
                  refine zr_iald (pc := 133) (q := 1) h gkc_272 rfl (by decide) dX12_has_133 ?_
                  exact zr_iret (pc := 134) h dX12_has_134 (zRp hf).1 (zRp hf).2
                · have hf := hf.2 b11
                  have hf := zIf_s hf
                  rcases Decidable.em (a1 = (7 : Int32)) with b12 | b12
                  · have hf := hf.1 b12
                    refine zr_tabIn (pc := 15) (tgt := 135) h dX12_has_15 (by rw [b12]; decide) (by rw [b12]; decide) (off := 120) (by rw [b12]; rfl) rfl ?_
                    refine zr_aload_n (pc := 135) h dX12_has_135 rfl rfl ?_
                    refine zf_X12_27 (pc := 136) h gkc_267 dX12_has_136 ?_
                    refine zr_iconst (pc := 139) (v := (2 : Int32)) h dX12_has_139 (by decide) ?_
                    refine zr_iald (pc := 140) (q := 2) h gkc_272 rfl (by decide) dX12_has_140 ?_
                    exact zr_iret (pc := 141) h dX12_has_141 (zRp hf).1 (zRp hf).2
                  · have hf := hf.2 b12
                    have hf := zIf_s hf
                    rcases Decidable.em (a1 = (8 : Int32)) with b13 | b13
                    · have hf := hf.1 b13
                      refine zr_tabIn (pc := 15) (tgt := 142) h dX12_has_15 (by rw [b13]; decide) (by rw [b13]; decide) (off := 127) (by rw [b13]; rfl) rfl ?_
                      refine zr_aload_n (pc := 142) h dX12_has_142 rfl rfl ?_
                      refine zf_X12_27 (pc := 143) h gkc_267 dX12_has_143 ?_
                      refine zr_iconst (pc := 146) (v := (3 : Int32)) h dX12_has_146 (by decide) ?_
                      refine zr_iald (pc := 147) (q := 3) h gkc_272 rfl (by decide) dX12_has_147 ?_
                      exact zr_iret (pc := 148) h dX12_has_148 (zRp hf).1 (zRp hf).2
                    · have hf := hf.2 b13
                      have hf := zIf_s hf
                      rcases Decidable.em (a1 = (9 : Int32)) with b14 | b14
                      · have hf := hf.1 b14
                        refine zr_tabIn (pc := 15) (tgt := 149) h dX12_has_15 (by rw [b14]; decide) (by rw [b14]; decide) (off := 134) (by rw [b14]; rfl) rfl ?_
                        refine zr_aload_n (pc := 149) h dX12_has_149 rfl rfl ?_
                        refine zf_X12_27 (pc := 150) h gkc_267 dX12_has_150 ?_
                        refine zr_iconst (pc := 153) (v := (4 : Int32)) h dX12_has_153 (by decide) ?_
                        refine zr_iald (pc := 154) (q := 4) h gkc_272 rfl (by decide) dX12_has_154 ?_
                        exact zr_iret (pc := 155) h dX12_has_155 (zRp hf).1 (zRp hf).2
                      · have hf := hf.2 b14
                        have hf := zIf_s hf
                        rcases Decidable.em (a1 = (10 : Int32)) with b15 | b15
                        · have hf := hf.1 b15
                          refine zr_tabIn (pc := 15) (tgt := 156) h dX12_has_15 (by rw [b15]; decide) (by rw [b15]; decide) (off := 141) (by rw [b15]; rfl) rfl ?_
                          refine zr_aload_n (pc := 156) h dX12_has_156 rfl rfl ?_
                          refine zf_X12_27 (pc := 157) h gkc_267 dX12_has_157 ?_
                          refine zr_bipush (pc := 160) (v := (9 : Int32)) h dX12_has_160 (by decide) ?_
                          refine zr_iald (pc := 162) (q := 9) h gkc_272 rfl (by decide) dX12_has_162 ?_
                          exact zr_iret (pc := 163) h dX12_has_163 (zRp hf).1 (zRp hf).2
                        · have hf := hf.2 b15
                          have hf := zIf_s hf
                          rcases Decidable.em (a1 = (11 : Int32)) with b16 | b16
                          · have hf := hf.1 b16
                            refine zr_tabIn (pc := 15) (tgt := 164) h dX12_has_15 (by rw [b16]; decide) (by rw [b16]; decide) (off := 149) (by rw [b16]; rfl) rfl ?_
                            refine zr_aload_n (pc := 164) h dX12_has_164 rfl rfl ?_
                            refine zf_X12_27 (pc := 165) h gkc_267 dX12_has_165 ?_
                            refine zr_bipush (pc := 168) (v := (8 : Int32)) h dX12_has_168 (by decide) ?_
                            refine zr_iald (pc := 170) (q := 8) h gkc_272 rfl (by decide) dX12_has_170 ?_
                            exact zr_iret (pc := 171) h dX12_has_171 (zRp hf).1 (zRp hf).2
                          · have hf := hf.2 b16
                            have hf := zIf_s hf
                            rcases Decidable.em (a1 = (12 : Int32)) with b17 | b17
                            · have hf := hf.1 b17
                              refine zr_tabIn (pc := 15) (tgt := 172) h dX12_has_15 (by rw [b17]; decide) (by rw [b17]; decide) (off := 157) (by rw [b17]; rfl) rfl ?_
                              refine zr_aload_n (pc := 172) h dX12_has_172 rfl rfl ?_
                              refine zf_X12_27 (pc := 173) h gkc_267 dX12_has_173 ?_
                              refine zr_bipush (pc := 176) (v := (7 : Int32)) h dX12_has_176 (by decide) ?_
                              refine zr_iald (pc := 178) (q := 7) h gkc_272 rfl (by decide) dX12_has_178 ?_
                              exact zr_iret (pc := 179) h dX12_has_179 (zRp hf).1 (zRp hf).2
                            · have hf := hf.2 b17
                              have hf := zIf_s hf
                              rcases Decidable.em (a1 = (13 : Int32)) with b18 | b18
                              · have hf := hf.1 b18
                                refine zr_tabIn (pc := 15) (tgt := 180) h dX12_has_15 (by rw [b18]; decide) (by rw [b18]; decide) (off := 165) (by rw [b18]; rfl) rfl ?_
                                refine zr_aload_n (pc := 180) h dX12_has_180 rfl rfl ?_
                                refine zf_X12_228 (pc := 181) h gkc_267 dX12_has_181 ?_
                                exact zr_iret (pc := 184) h dX12_has_184 (zRp hf).1 (zRp hf).2
                              · have hf := hf.2 b18
                                have hf := zIf_s hf
                                rcases Decidable.em (a1 = (14 : Int32)) with b19 | b19
                                · have hf := hf.1 b19
                                  refine zr_tabIn (pc := 15) (tgt := 185) h dX12_has_15 (by rw [b19]; decide) (by rw [b19]; decide) (off := 170) (by rw [b19]; rfl) rfl ?_
                                  refine zr_aload_n (pc := 185) h dX12_has_185 rfl rfl ?_
                                  refine zf_X12_27 (pc := 186) h gkc_267 dX12_has_186 ?_
                                  refine zr_iconst (pc := 189) (v := (5 : Int32)) h dX12_has_189 (by decide) ?_
                                  refine zr_iald (pc := 190) (q := 5) h gkc_272 rfl (by decide) dX12_has_190 ?_
                                  exact zr_iret (pc := 191) h dX12_has_191 (zRp hf).1 (zRp hf).2
                                · have hf := hf.2 b19
                                  have hf := zIf_s hf
                                  rcases Decidable.em (a1 = (15 : Int32)) with b20 | b20
                                  · have hf := hf.1 b20
                                    refine zr_tabIn (pc := 15) (tgt := 192) h dX12_has_15 (by rw [b20]; decide) (by rw [b20]; decide) (off := 177) (by rw [b20]; rfl) rfl ?_
                                    refine zr_aload_n (pc := 192) h dX12_has_192 rfl rfl ?_
                                    refine zf_X12_27 (pc := 193) h gkc_267 dX12_has_193 ?_
                                    refine zr_bipush (pc := 196) (v := (6 : Int32)) h dX12_has_196 (by decide) ?_
                                    refine zr_iald (pc := 198) (q := 6) h gkc_272 rfl (by decide) dX12_has_198 ?_
                                    exact zr_iret (pc := 199) h dX12_has_199 (zRp hf).1 (zRp hf).2
                                  · have hf := hf.2 b20
                                    refine zr_tabOut (pc := 15) (tgt := 200) h dX12_has_15 (zTab_16 b2 b4 b5 b7 b9 b10 b11 b12 b13 b14 b15 b16 b17 b18 b19 b20) rfl ?_
                                    refine zr_iconst (pc := 200) (v := (-1 : Int32)) h dX12_has_200 (by decide) ?_
                                    exact zr_iret (pc := 201) h dX12_has_201 (zRp hf).1 (zRp hf).2
  · have hf := hf.1 b21
    refine zr_iconst (pc := 12) (v := (-1 : Int32)) h dX12_has_12 (by decide) ?_
    exact zr_iret (pc := 13) h dX12_has_13 (zRp hf).1 (zRp hf).2

set_option maxRecDepth 100000 in
set_option maxHeartbeats 4000000 in
theorem cX12_group_ok {l : Launch} {g : gG} {a1 : Int32} {a2 : Int32} {μ : gM} {r : Int32} {ν : gM} (hf : fX12_group a1 a2 μ = some (r, ν)) : gMet l g yX12_group cX12_group 3 (some .int) 2 46 [.ref (g.1 + 267), .int a1, .int a2] μ (some (.int r)) ν := by
  refine gMet_of (gIni [.ref (g.1 + 267), .int a1, .int a2] ++ List.replicate 0 none) (by decide) (gIni_ok _ _) (Nat.le_of_ble_eq_true rfl) (fun K h => ?_)
  show K 0 [some (.ref (g.1 + 267)), some (.int a1), some (.int a2)] [] μ
  unfold fX12_group at hf
  refine zr_aload_n (pc := 0) h dX12_group_0 rfl rfl ?_
  refine zr_iconst (pc := 1) (v := (0 : Int32)) h dX12_group_1 (by decide) ?_
  refine zp_X12_46 (pc := 2) h gkc_267 dX12_group_2 ?_
  refine zr_mu h (fun μ1 eμ1 => ?_)
  have hf := zLt_s eμ1 hf
  refine zr_aload_n (pc := 5) h dX12_group_5 rfl rfl ?_
  refine zr_iload_n (pc := 6) h dX12_group_6 rfl rfl ?_
  obtain ⟨x2, ex2, hf⟩ := zBd_s hf
  refine zm_X12_259 (pc := 7) h gkc_267 ⟨by decide, by decide⟩ (cX12_isGroup_ok ex2) rfl (Nat.le_of_ble_eq_true rfl) dX12_group_7 rfl ?_
  have hf := zIf_s hf
  refine zr_if_ne (pc := 10) (tgt := 15) h dX12_group_10 rfl (fun b21 => ?_) (fun b21 => ?_)
  · have hf := hf.2 b21
    refine zr_iload_n (pc := 15) h dX12_group_15 rfl rfl ?_
    have hf := zIf_s hf
    rcases Decidable.em (a2 = (0 : Int32)) with b3 | b3
    · have hf := hf.1 b3
      refine zr_tabIn (pc := 16) (tgt := 68) h dX12_group_16 (by rw [b3]; decide) (by rw [b3]; decide) (off := 52) (by rw [b3]; rfl) rfl ?_
      refine zr_aload_n (pc := 68) h dX12_group_68 rfl rfl ?_
      refine zf_X12_17 (pc := 69) h gkc_267 dX12_group_69 ?_
      refine zr_bipush (pc := 72) (v := (28 : Int32)) h dX12_group_72 (by decide) ?_
      refine zr_iload_n (pc := 74) h dX12_group_74 rfl rfl ?_
      refine zr_iadd (pc := 75) h dX12_group_75 ?_
      obtain ⟨q4, hf⟩ := zCk_s hf
      refine zr_iald (pc := 76) h gkc_269 q4 rfl dX12_group_76 ?_
      exact zr_iret (pc := 77) h dX12_group_77 (zRp hf).1 (zRp hf).2
    · have hf := hf.2 b3
      have hf := zIf_s hf
      rcases Decidable.em (a2 = (1 : Int32)) with b5 | b5
      · have hf := hf.1 b5
        refine zr_tabIn (pc := 16) (tgt := 78) h dX12_group_16 (by rw [b5]; decide) (by rw [b5]; decide) (off := 62) (by rw [b5]; rfl) rfl ?_
        refine zr_aload_n (pc := 78) h dX12_group_78 rfl rfl ?_
        refine zf_X12_17 (pc := 79) h gkc_267 dX12_group_79 ?_
        refine zr_bipush (pc := 82) (v := (33 : Int32)) h dX12_group_82 (by decide) ?_
        refine zr_iload_n (pc := 84) h dX12_group_84 rfl rfl ?_
        refine zr_iadd (pc := 85) h dX12_group_85 ?_
        obtain ⟨q6, hf⟩ := zCk_s hf
        refine zr_iald (pc := 86) h gkc_269 q6 rfl dX12_group_86 ?_
        exact zr_iret (pc := 87) h dX12_group_87 (zRp hf).1 (zRp hf).2
      · have hf := hf.2 b5
        have hf := zIf_s hf
        rcases Decidable.em (a2 = (2 : Int32)) with b7 | b7
        · have hf := hf.1 b7
          refine zr_tabIn (pc := 16) (tgt := 88) h dX12_group_16 (by rw [b7]; decide) (by rw [b7]; decide) (off := 72) (by rw [b7]; rfl) rfl ?_
          refine zr_aload_n (pc := 88) h dX12_group_88 rfl rfl ?_
          refine zf_X12_17 (pc := 89) h gkc_267 dX12_group_89 ?_
          refine zr_bipush (pc := 92) (v := (38 : Int32)) h dX12_group_92 (by decide) ?_
          refine zr_iload_n (pc := 94) h dX12_group_94 rfl rfl ?_
          refine zr_iadd (pc := 95) h dX12_group_95 ?_
          obtain ⟨q8, hf⟩ := zCk_s hf
          refine zr_iald (pc := 96) h gkc_269 q8 rfl dX12_group_96 ?_
          exact zr_iret (pc := 97) h dX12_group_97 (zRp hf).1 (zRp hf).2
        · have hf := hf.2 b7
          have hf := zIf_s hf
          rcases Decidable.em (a2 = (3 : Int32)) with b9 | b9
          · have hf := hf.1 b9
            refine zr_tabIn (pc := 16) (tgt := 98) h dX12_group_16 (by rw [b9]; decide) (by rw [b9]; decide) (off := 82) (by rw [b9]; rfl) rfl ?_
            refine zr_aload_n (pc := 98) h dX12_group_98 rfl rfl ?_
            refine zf_X12_17 (pc := 99) h gkc_267 dX12_group_99 ?_
            refine zr_bipush (pc := 102) (v := (43 : Int32)) h dX12_group_102 (by decide) ?_
            refine zr_iload_n (pc := 104) h dX12_group_104 rfl rfl ?_
            refine zr_iadd (pc := 105) h dX12_group_105 ?_
            obtain ⟨q10, hf⟩ := zCk_s hf
            refine zr_iald (pc := 106) h gkc_269 q10 rfl dX12_group_106 ?_
            exact zr_iret (pc := 107) h dX12_group_107 (zRp hf).1 (zRp hf).2
          · have hf := hf.2 b9
            have hf := zIf_s hf
            rcases Decidable.em (a2 = (4 : Int32)) with b11 | b11
            · have hf := hf.1 b11
              refine zr_tabIn (pc := 16) (tgt := 108) h dX12_group_16 (by rw [b11]; decide) (by rw [b11]; decide) (off := 92) (by rw [b11]; rfl) rfl ?_
              refine zr_aload_n (pc := 108) h dX12_group_108 rfl rfl ?_
              refine zf_X12_17 (pc := 109) h gkc_267 dX12_group_109 ?_
              refine zr_bipush (pc := 112) (v := (48 : Int32)) h dX12_group_112 (by decide) ?_
              refine zr_iload_n (pc := 114) h dX12_group_114 rfl rfl ?_
              refine zr_iadd (pc := 115) h dX12_group_115 ?_
              obtain ⟨q12, hf⟩ := zCk_s hf
              refine zr_iald (pc := 116) h gkc_269 q12 rfl dX12_group_116 ?_
              exact zr_iret (pc := 117) h dX12_group_117 (zRp hf).1 (zRp hf).2
            · have hf := hf.2 b11
              have hf := zIf_s hf
              rcases Decidable.em (a2 = (5 : Int32)) with b13 | b13
              · have hf := hf.1 b13
                refine zr_tabIn (pc := 16) (tgt := 118) h dX12_group_16 (by rw [b13]; decide) (by rw [b13]; decide) (off := 102) (by rw [b13]; rfl) rfl ?_
                refine zr_aload_n (pc := 118) h dX12_group_118 rfl rfl ?_
                refine zf_X12_27 (pc := 119) h gkc_267 dX12_group_119 ?_
                refine zr_sipush (pc := 122) (v := (130 : Int32)) h dX12_group_122 (by decide) ?_
                refine zr_iload_n (pc := 125) h dX12_group_125 rfl rfl ?_
                refine zr_iadd (pc := 126) h dX12_group_126 ?_
                obtain ⟨q14, hf⟩ := zCk_s hf
                refine zr_iald (pc := 127) h gkc_272 q14 rfl dX12_group_127 ?_
                exact zr_iret (pc := 128) h dX12_group_128 (zRp hf).1 (zRp hf).2
              · have hf := hf.2 b13
                have hf := zIf_s hf
                rcases Decidable.em (a2 = (6 : Int32)) with b15 | b15
                · have hf := hf.1 b15
                  refine zr_tabIn (pc := 16) (tgt := 129) h dX12_group_16 (by rw [b15]; decide) (by rw [b15]; decide) (off := 113) (by rw [b15]; rfl) rfl ?_
                  refine zr_aload_n (pc := 129) h dX12_group_129 rfl rfl ?_
                  refine zf_X12_27 (pc := 130) h gkc_267 dX12_group_130 ?_
                  refine zr_sipush (pc := 133) (v := (135 : Int32)) h dX12_group_133 (by decide) ?_
                  refine zr_iload_n (pc := 136) h dX12_group_136 rfl rfl ?_
                  refine zr_iadd (pc := 137) h dX12_group_137 ?_
                  obtain ⟨q16, hf⟩ := zCk_s hf
                  refine zr_iald (pc := 138) h gkc_272 q16 rfl dX12_group_138 ?_
                  exact zr_iret (pc := 139) h dX12_group_139 (zRp hf).1 (zRp hf).2
                · have hf := hf.2 b15
                  have hf := zIf_s hf
                  rcases Decidable.em (a2 = (7 : Int32)) with b17 | b17
                  · have hf := hf.1 b17
                    refine zr_tabIn (pc := 16) (tgt := 140) h dX12_group_16 (by rw [b17]; decide) (by rw [b17]; decide) (off := 124) (by rw [b17]; rfl) rfl ?_
                    refine zr_aload_n (pc := 140) h dX12_group_140 rfl rfl ?_
                    refine zf_X12_27 (pc := 141) h gkc_267 dX12_group_141 ?_
                    refine zr_sipush (pc := 144) (v := (140 : Int32)) h dX12_group_144 (by decide) ?_
                    refine zr_iload_n (pc := 147) h dX12_group_147 rfl rfl ?_
                    refine zr_iadd (pc := 148) h dX12_group_148 ?_
                    obtain ⟨q18, hf⟩ := zCk_s hf
                    refine zr_iald (pc := 149) h gkc_272 q18 rfl dX12_group_149 ?_
                    exact zr_iret (pc := 150) h dX12_group_150 (zRp hf).1 (zRp hf).2
                  · have hf := hf.2 b17
                    have hf := zIf_s hf
                    rcases Decidable.em (a2 = (8 : Int32)) with b19 | b19
                    · have hf := hf.1 b19
                      refine zr_tabIn (pc := 16) (tgt := 151) h dX12_group_16 (by rw [b19]; decide) (by rw [b19]; decide) (off := 135) (by rw [b19]; rfl) rfl ?_
                      refine zr_aload_n (pc := 151) h dX12_group_151 rfl rfl ?_
                      refine zr_iload_n (pc := 152) h dX12_group_152 rfl rfl ?_
                      refine zr_iconst (pc := 153) (v := (2 : Int32)) h dX12_group_153 (by decide) ?_
                      obtain ⟨x20, ex20, hf⟩ := zBd_s hf
                      refine zm_X12_338 (pc := 154) h gkc_267 ⟨by decide, by decide⟩ (cX12_bitsOf_ok ex20) rfl (Nat.le_of_ble_eq_true rfl) dX12_group_154 rfl ?_
                      exact zr_iret (pc := 157) h dX12_group_157 (zRp hf).1 (zRp hf).2
                    · have hf := hf.2 b19
                      refine zr_tabOut (pc := 16) (tgt := 158) h dX12_group_16 (zTab_9 b3 b5 b7 b9 b11 b13 b15 b17 b19) rfl ?_
                      refine zr_iconst (pc := 158) (v := (-1 : Int32)) h dX12_group_158 (by decide) ?_
                      exact zr_iret (pc := 159) h dX12_group_159 (zRp hf).1 (zRp hf).2
  · have hf := hf.1 b21
    refine zr_iconst (pc := 13) (v := (-1 : Int32)) h dX12_group_13 (by decide) ?_
    exact zr_iret (pc := 14) h dX12_group_14 (zRp hf).1 (zRp hf).2

set_option maxRecDepth 100000 in
set_option maxHeartbeats 4000000 in
theorem cX12_member_ok {l : Launch} {g : gG} {a1 : Int32} {a2 : Int32} {a3 : Int32} {μ : gM} {r : Int32} {ν : gM} (hf : fX12_member a1 a2 a3 μ = some (r, ν)) : gMet l g yX12_member cX12_member 5 (some .int) 4 89 [.ref (g.1 + 267), .int a1, .int a2, .int a3] μ (some (.int r)) ν := by
  refine gMet_of (gIni [.ref (g.1 + 267), .int a1, .int a2, .int a3] ++ List.replicate 1 none) (by decide) (gIni_ok _ _) (Nat.le_of_ble_eq_true rfl) (fun K h => ?_)
  show K 0 [some (.ref (g.1 + 267)), some (.int a1), some (.int a2), some (.int a3), none] [] μ
  unfold fX12_member at hf
  refine zr_aload_n (pc := 0) h dX12_member_0 rfl rfl ?_
  refine zr_iconst (pc := 1) (v := (0 : Int32)) h dX12_member_1 (by decide) ?_
  refine zp_X12_46 (pc := 2) h gkc_267 dX12_member_2 ?_
  refine zr_mu h (fun μ1 eμ1 => ?_)
  have hf := zLt_s eμ1 hf
  refine zr_aload_n (pc := 5) h dX12_member_5 rfl rfl ?_
  refine zr_iload_n (pc := 6) h dX12_member_6 rfl rfl ?_
  refine zr_iload_n (pc := 7) h dX12_member_7 rfl rfl ?_
  obtain ⟨x2, ex2, hf⟩ := zBd_s hf
  refine zm_X12_287 (pc := 8) h gkc_267 ⟨by decide, by decide⟩ (cX12_isMember_ok ex2) rfl (Nat.le_of_ble_eq_true rfl) dX12_member_8 rfl ?_
  have hf := zIf_s hf
  refine zr_if_ne (pc := 11) (tgt := 16) h dX12_member_11 rfl (fun b20 => ?_) (fun b20 => ?_)
  · have hf := hf.2 b20
    refine zr_iload_n (pc := 16) h dX12_member_16 rfl rfl ?_
    refine zr_iload_n (pc := 17) h dX12_member_17 rfl rfl ?_
    obtain ⟨x3, ex3, hf⟩ := zBd_s hf
    refine zm_X12_190 (pc := 18) h ⟨by decide, by decide⟩ (cX12_of_ok ex3) rfl (Nat.le_of_ble_eq_true rfl) dX12_member_18 rfl ?_
    refine zr_istore (pc := 21) h dX12_member_21 (by decide) rfl ?_
    refine zr_iload_n (pc := 23) h dX12_member_23 rfl rfl ?_
    have hf := zIf_s hf
    rcases Decidable.em (a3 = (0 : Int32)) with b4 | b4
    · have hf := hf.1 b4
      refine zr_tabIn (pc := 24) (tgt := 72) h dX12_member_24 (by rw [b4]; decide) (by rw [b4]; decide) (off := 48) (by rw [b4]; rfl) rfl ?_
      refine zr_aload_n (pc := 72) h dX12_member_72 rfl rfl ?_
      refine zf_X12_27 (pc := 73) h gkc_267 dX12_member_73 ?_
      refine zr_bipush (pc := 76) (v := (10 : Int32)) h dX12_member_76 (by decide) ?_
      refine zr_iload (pc := 78) h dX12_member_78 rfl ?_
      refine zr_iadd (pc := 80) h dX12_member_80 ?_
      obtain ⟨q5, hf⟩ := zCk_s hf
      refine zr_iald (pc := 81) h gkc_272 q5 rfl dX12_member_81 ?_
      exact zr_iret (pc := 82) h dX12_member_82 (zRp hf).1 (zRp hf).2
    · have hf := hf.2 b4
      have hf := zIf_s hf
      rcases Decidable.em (a3 = (1 : Int32)) with b6 | b6
      · have hf := hf.1 b6
        refine zr_tabIn (pc := 24) (tgt := 83) h dX12_member_24 (by rw [b6]; decide) (by rw [b6]; decide) (off := 59) (by rw [b6]; rfl) rfl ?_
        refine zr_aload_n (pc := 83) h dX12_member_83 rfl rfl ?_
        refine zr_iload_n (pc := 84) h dX12_member_84 rfl rfl ?_
        refine zr_iload_n (pc := 85) h dX12_member_85 rfl rfl ?_
        obtain ⟨x7, ex7, hf⟩ := zBd_s hf
        refine zm_X12_268 (pc := 86) h gkc_267 ⟨by decide, by decide⟩ (cX12_wordOf_ok ex7) rfl (Nat.le_of_ble_eq_true rfl) dX12_member_86 rfl ?_
        exact zr_iret (pc := 89) h dX12_member_89 (zRp hf).1 (zRp hf).2
      · have hf := hf.2 b6
        have hf := zIf_s hf
        rcases Decidable.em (a3 = (2 : Int32)) with b8 | b8
        · have hf := hf.1 b8
          refine zr_tabIn (pc := 24) (tgt := 90) h dX12_member_24 (by rw [b8]; decide) (by rw [b8]; decide) (off := 66) (by rw [b8]; rfl) rfl ?_
          refine zr_aload_n (pc := 90) h dX12_member_90 rfl rfl ?_
          refine zf_X12_17 (pc := 91) h gkc_267 dX12_member_91 ?_
          refine zr_bipush (pc := 94) (v := (83 : Int32)) h dX12_member_94 (by decide) ?_
          refine zr_iload (pc := 96) h dX12_member_96 rfl ?_
          refine zr_iadd (pc := 98) h dX12_member_98 ?_
          obtain ⟨q9, hf⟩ := zCk_s hf
          refine zr_iald (pc := 99) h gkc_269 q9 rfl dX12_member_99 ?_
          exact zr_iret (pc := 100) h dX12_member_100 (zRp hf).1 (zRp hf).2
        · have hf := hf.2 b8
          have hf := zIf_s hf
          rcases Decidable.em (a3 = (3 : Int32)) with b10 | b10
          · have hf := hf.1 b10
            refine zr_tabIn (pc := 24) (tgt := 101) h dX12_member_24 (by rw [b10]; decide) (by rw [b10]; decide) (off := 77) (by rw [b10]; rfl) rfl ?_
            refine zr_aload_n (pc := 101) h dX12_member_101 rfl rfl ?_
            refine zf_X12_27 (pc := 102) h gkc_267 dX12_member_102 ?_
            refine zr_bipush (pc := 105) (v := (40 : Int32)) h dX12_member_105 (by decide) ?_
            refine zr_iload (pc := 107) h dX12_member_107 rfl ?_
            refine zr_iadd (pc := 109) h dX12_member_109 ?_
            obtain ⟨q11, hf⟩ := zCk_s hf
            refine zr_iald (pc := 110) h gkc_272 q11 rfl dX12_member_110 ?_
            exact zr_iret (pc := 111) h dX12_member_111 (zRp hf).1 (zRp hf).2
          · have hf := hf.2 b10
            have hf := zIf_s hf
            rcases Decidable.em (a3 = (4 : Int32)) with b12 | b12
            · have hf := hf.1 b12
              refine zr_tabIn (pc := 24) (tgt := 112) h dX12_member_24 (by rw [b12]; decide) (by rw [b12]; decide) (off := 88) (by rw [b12]; rfl) rfl ?_
              refine zr_aload_n (pc := 112) h dX12_member_112 rfl rfl ?_
              refine zf_X12_27 (pc := 113) h gkc_267 dX12_member_113 ?_
              refine zr_bipush (pc := 116) (v := (70 : Int32)) h dX12_member_116 (by decide) ?_
              refine zr_iload (pc := 118) h dX12_member_118 rfl ?_
              refine zr_iadd (pc := 120) h dX12_member_120 ?_
              obtain ⟨q13, hf⟩ := zCk_s hf
              refine zr_iald (pc := 121) h gkc_272 q13 rfl dX12_member_121 ?_
              exact zr_iret (pc := 122) h dX12_member_122 (zRp hf).1 (zRp hf).2
            · have hf := hf.2 b12
              have hf := zIf_s hf
              rcases Decidable.em (a3 = (5 : Int32)) with b14 | b14
              · have hf := hf.1 b14
                refine zr_tabIn (pc := 24) (tgt := 123) h dX12_member_24 (by rw [b14]; decide) (by rw [b14]; decide) (off := 99) (by rw [b14]; rfl) rfl ?_
                refine zr_aload_n (pc := 123) h dX12_member_123 rfl rfl ?_
                refine zr_iload_n (pc := 124) h dX12_member_124 rfl rfl ?_
                refine zr_iload_n (pc := 125) h dX12_member_125 rfl rfl ?_
                obtain ⟨x15, ex15, hf⟩ := zBd_s hf
                refine zm_X12_271 (pc := 126) h gkc_267 ⟨by decide, by decide⟩ (cX12_skewOf_ok ex15) rfl (Nat.le_of_ble_eq_true rfl) dX12_member_126 rfl ?_
                exact zr_iret (pc := 129) h dX12_member_129 (zRp hf).1 (zRp hf).2
              · have hf := hf.2 b14
                have hf := zIf_s hf
                rcases Decidable.em (a3 = (6 : Int32)) with b16 | b16
                · have hf := hf.1 b16
                  refine zr_tabIn (pc := 24) (tgt := 130) h dX12_member_24 (by rw [b16]; decide) (by rw [b16]; decide) (off := 106) (by rw [b16]; rfl) rfl ?_
                  refine zr_aload_n (pc := 130) h dX12_member_130 rfl rfl ?_
                  refine zr_iload_n (pc := 131) h dX12_member_131 rfl rfl ?_
                  refine zr_iload_n (pc := 132) h dX12_member_132 rfl rfl ?_
                  obtain ⟨x17, ex17, hf⟩ := zBd_s hf
                  refine zm_X12_277 (pc := 133) h gkc_267 ⟨by decide, by decide⟩ (cX12_patienceOf_ok ex17) rfl (Nat.le_of_ble_eq_true rfl) dX12_member_133 rfl ?_
                  exact zr_iret (pc := 136) h dX12_member_136 (zRp hf).1 (zRp hf).2
                · have hf := hf.2 b16
                  have hf := zIf_s hf
                  rcases Decidable.em (a3 = (7 : Int32)) with b18 | b18
                  · have hf := hf.1 b18
                    refine zr_tabIn (pc := 24) (tgt := 137) h dX12_member_24 (by rw [b18]; decide) (by rw [b18]; decide) (off := 113) (by rw [b18]; rfl) rfl ?_
                    refine zr_aload_n (pc := 137) h dX12_member_137 rfl rfl ?_
                    refine zf_X12_27 (pc := 138) h gkc_267 dX12_member_138 ?_
                    refine zr_bipush (pc := 141) (v := (100 : Int32)) h dX12_member_141 (by decide) ?_
                    refine zr_iload (pc := 143) h dX12_member_143 rfl ?_
                    refine zr_iadd (pc := 145) h dX12_member_145 ?_
                    obtain ⟨q19, hf⟩ := zCk_s hf
                    refine zr_iald (pc := 146) h gkc_272 q19 rfl dX12_member_146 ?_
                    refine zr_iconst (pc := 147) (v := (1 : Int32)) h dX12_member_147 (by decide) ?_
                    refine zr_isub (pc := 148) h dX12_member_148 ?_
                    exact zr_iret (pc := 149) h dX12_member_149 (zRp hf).1 (zRp hf).2
                  · have hf := hf.2 b18
                    refine zr_tabOut (pc := 24) (tgt := 150) h dX12_member_24 (zTab_8 b4 b6 b8 b10 b12 b14 b16 b18) rfl ?_
                    refine zr_iconst (pc := 150) (v := (-1 : Int32)) h dX12_member_150 (by decide) ?_
                    exact zr_iret (pc := 151) h dX12_member_151 (zRp hf).1 (zRp hf).2
  · have hf := hf.1 b20
    refine zr_iconst (pc := 14) (v := (-1 : Int32)) h dX12_member_14 (by decide) ?_
    exact zr_iret (pc := 15) h dX12_member_15 (zRp hf).1 (zRp hf).2

set_option maxRecDepth 100000 in
set_option maxHeartbeats 4000000 in
theorem fX12_letter_n92_ok {l : Launch} {g : gG} {r : Int32} {ν : gM} {K : gKt} (h : gR l g cX12_letter RX12 6 (some .int) (gRm 1 25) (some (.int r)) ν K) {y3 : Int32} {y4 : Int32} {y5 : Int32} {μ : gM} (hf : fX12_letter_n92 y3 y4 y5 μ = some (r, ν)) : K 92 [none, none, none, some (.int y3), some (.int y4), some (.int y5)] [] μ := by
  unfold fX12_letter_n92 at hf
  refine zr_iload_n (pc := 92) h dX12_letter_92 rfl rfl ?_
  refine zr_iload (pc := 93) h dX12_letter_93 rfl ?_
  have hf := zIf_s hf
  refine zr_icmp_ge (pc := 95) (tgt := 115) h dX12_letter_95 rfl (fun b8 => ?_) (fun b8 => ?_)
  · have hf := hf.1 b8
    refine zr_iconst (pc := 115) (v := (0 : Int32)) h dX12_letter_115 (by decide) ?_
    exact zr_iret (pc := 116) h dX12_letter_116 (zRp hf).1 (zRp hf).2
  · have hf := hf.2 b8
    refine zr_iload (pc := 98) h dX12_letter_98 rfl ?_
    refine zr_iconst (pc := 100) (v := (5 : Int32)) h dX12_letter_100 (by decide) ?_
    refine zr_iload (pc := 101) h dX12_letter_101 rfl ?_
    refine zr_iconst (pc := 103) (v := (1 : Int32)) h dX12_letter_103 (by decide) ?_
    refine zr_isub (pc := 104) h dX12_letter_104 ?_
    refine zr_iload_n (pc := 105) h dX12_letter_105 rfl rfl ?_
    refine zr_isub (pc := 106) h dX12_letter_106 ?_
    refine zr_imul (pc := 107) h dX12_letter_107 ?_
    refine zr_ishr (pc := 108) h dX12_letter_108 ?_
    refine zr_bipush (pc := 109) (v := (31 : Int32)) h dX12_letter_109 (by decide) ?_
    refine zr_iand (pc := 111) h dX12_letter_111 ?_
    refine zr_goto (pc := 112) (tgt := 116) h dX12_letter_112 rfl ?_
    exact zr_iret (pc := 116) h dX12_letter_116 (zRp hf).1 (zRp hf).2

set_option maxRecDepth 100000 in
set_option maxHeartbeats 4000000 in
theorem fX12_letter_l69_ok {l : Launch} {g : gG} {r : Int32} {ν : gM} {K : gKt} (h : gR l g cX12_letter RX12 6 (some .int) (gRm 1 25) (some (.int r)) ν K) : ∀ (n : Nat) (y3 : Int32) (y4 : Int32) (y5 : Int32) (μ : gM), fX12_letter_l69 n y3 y4 y5 μ = some (r, ν) → K 69 [none, none, none, some (.int y3), some (.int y4), some (.int y5)] [] μ := by
  intro n
  induction n with
  | zero =>
    intro y3 y4 y5 μ hf
    cases (show (none : Option (Int32 × gM)) = some _ from hf)
  | succ n ih =>
    intro y3 y4 y5 μ hf
    unfold fX12_letter_l69 at hf
    refine zr_iload (pc := 69) h dX12_letter_69 rfl ?_
    refine zr_bipush (pc := 71) (v := (6 : Int32)) h dX12_letter_71 (by decide) ?_
    have hf := zIf_s hf
    refine zr_icmp_ge (pc := 73) (tgt := 92) h dX12_letter_73 rfl (fun b11 => ?_) (fun b11 => ?_)
    · have hf := hf.1 b11
      exact zr_weak h [false, false, false, true, true, true] (fX12_letter_n92_ok h hf)
    · have hf := hf.2 b11
      refine zr_iload (pc := 76) h dX12_letter_76 rfl ?_
      refine zr_iconst (pc := 78) (v := (5 : Int32)) h dX12_letter_78 (by decide) ?_
      refine zr_iload (pc := 79) h dX12_letter_79 rfl ?_
      refine zr_imul (pc := 81) h dX12_letter_81 ?_
      refine zr_ishr (pc := 82) h dX12_letter_82 ?_
      have hf := zIf_s hf
      refine zr_if_le (pc := 83) (tgt := 92) h dX12_letter_83 rfl (fun b10 => ?_) (fun b10 => ?_)
      · have hf := hf.1 b10
        exact zr_weak h [false, false, false, true, true, true] (fX12_letter_n92_ok h hf)
      · have hf := hf.2 b10
        refine zr_iincx (pc := 86) h dX12_letter_86 rfl (by decide) rfl (c := (1 : Int32)) (by decide) (fun x9 ex9 => ?_)
        have hf := zLt_s ex9 hf
        refine zr_goto (pc := 89) (tgt := 69) h dX12_letter_89 rfl ?_
        exact zr_weak h [false, false, false, true, true, true] (ih _ _ _ _ hf)

set_option maxRecDepth 100000 in
set_option maxHeartbeats 4000000 in
theorem cX12_letter_ok {l : Launch} {g : gG} {a1 : Int32} {a2 : Int32} {a3 : Int32} {μ : gM} {r : Int32} {ν : gM} (hf : fX12_letter a1 a2 a3 μ = some (r, ν)) : gMet l g yX12_letter cX12_letter 6 (some .int) 1 25 [.ref (g.1 + 267), .int a1, .int a2, .int a3] μ (some (.int r)) ν := by
  refine gMet_of (gIni [.ref (g.1 + 267), .int a1, .int a2, .int a3] ++ List.replicate 2 none) (by decide) (gIni_ok _ _) (Nat.le_of_ble_eq_true rfl) (fun K h => ?_)
  show K 0 [some (.ref (g.1 + 267)), some (.int a1), some (.int a2), some (.int a3), none, none] [] μ
  unfold fX12_letter at hf
  refine zr_aload_n (pc := 0) h dX12_letter_0 rfl rfl ?_
  refine zr_iconst (pc := 1) (v := (0 : Int32)) h dX12_letter_1 (by decide) ?_
  refine zp_X12_46 (pc := 2) h gkc_267 dX12_letter_2 ?_
  refine zr_mu h (fun μ1 eμ1 => ?_)
  have hf := zLt_s eμ1 hf
  refine zr_iload_n (pc := 5) h dX12_letter_5 rfl rfl ?_
  refine zr_i2l (pc := 6) h dX12_letter_6 ?_
  refine zr_lconst (pc := 7) (v := (0 : Int64)) h dX12_letter_7 (by decide) ?_
  refine zr_ldc2 (pc := 8) h zw_1723 dX12_letter_8 ?_
  obtain ⟨x2, ex2, hf⟩ := zBd_s hf
  refine zm_X12_56 (pc := 11) h ⟨by decide, by decide⟩ (cX12_isIn_ok ex2) rfl (Nat.le_of_ble_eq_true rfl) dX12_letter_11 rfl ?_
  have hf := zIf_s hf
  refine zr_if_eq (pc := 14) (tgt := 49) h dX12_letter_14 rfl (fun b14 => ?_) (fun b14 => ?_)
  · have hf := hf.1 b14
    refine zr_iconst (pc := 49) (v := (-1 : Int32)) h dX12_letter_49 (by decide) ?_
    exact zr_iret (pc := 50) h dX12_letter_50 (zRp hf).1 (zRp hf).2
  · have hf := hf.2 b14
    refine zr_iload_n (pc := 17) h dX12_letter_17 rfl rfl ?_
    refine zr_i2l (pc := 18) h dX12_letter_18 ?_
    refine zr_lconst (pc := 19) (v := (0 : Int64)) h dX12_letter_19 (by decide) ?_
    refine zr_aload_n (pc := 20) h dX12_letter_20 rfl rfl ?_
    refine zf_X12_17 (pc := 21) h gkc_267 dX12_letter_21 ?_
    refine zr_iconst (pc := 24) (v := (0 : Int32)) h dX12_letter_24 (by decide) ?_
    refine zr_iload_n (pc := 25) h dX12_letter_25 rfl rfl ?_
    refine zr_iadd (pc := 26) h dX12_letter_26 ?_
    obtain ⟨q3, hf⟩ := zCk_s hf
    refine zr_iald (pc := 27) h gkc_269 q3 rfl dX12_letter_27 ?_
    refine zr_iconst (pc := 28) (v := (1 : Int32)) h dX12_letter_28 (by decide) ?_
    refine zr_isub (pc := 29) h dX12_letter_29 ?_
    refine zr_i2l (pc := 30) h dX12_letter_30 ?_
    obtain ⟨x4, ex4, hf⟩ := zBd_s hf
    refine zm_X12_56 (pc := 31) h ⟨by decide, by decide⟩ (cX12_isIn_ok ex4) rfl (Nat.le_of_ble_eq_true rfl) dX12_letter_31 rfl ?_
    have hf := zIf_s hf
    refine zr_if_eq (pc := 34) (tgt := 49) h dX12_letter_34 rfl (fun b13 => ?_) (fun b13 => ?_)
    · have hf := hf.1 b13
      refine zr_iconst (pc := 49) (v := (-1 : Int32)) h dX12_letter_49 (by decide) ?_
      exact zr_iret (pc := 50) h dX12_letter_50 (zRp hf).1 (zRp hf).2
    · have hf := hf.2 b13
      refine zr_iload_n (pc := 37) h dX12_letter_37 rfl rfl ?_
      refine zr_i2l (pc := 38) h dX12_letter_38 ?_
      refine zr_lconst (pc := 39) (v := (0 : Int64)) h dX12_letter_39 (by decide) ?_
      refine zr_ldc2 (pc := 40) h zw_1724 dX12_letter_40 ?_
      obtain ⟨x5, ex5, hf⟩ := zBd_s hf
      refine zm_X12_56 (pc := 43) h ⟨by decide, by decide⟩ (cX12_isIn_ok ex5) rfl (Nat.le_of_ble_eq_true rfl) dX12_letter_43 rfl ?_
      have hf := zIf_s hf
      refine zr_if_ne (pc := 46) (tgt := 51) h dX12_letter_46 rfl (fun b12 => ?_) (fun b12 => ?_)
      · have hf := hf.2 b12
        refine zr_aload_n (pc := 51) h dX12_letter_51 rfl rfl ?_
        refine zf_X12_17 (pc := 52) h gkc_267 dX12_letter_52 ?_
        refine zr_iconst (pc := 55) (v := (4 : Int32)) h dX12_letter_55 (by decide) ?_
        refine zr_bipush (pc := 56) (v := (8 : Int32)) h dX12_letter_56 (by decide) ?_
        refine zr_iload_n (pc := 58) h dX12_letter_58 rfl rfl ?_
        refine zr_imul (pc := 59) h dX12_letter_59 ?_
        refine zr_iadd (pc := 60) h dX12_letter_60 ?_
        refine zr_iload_n (pc := 61) h dX12_letter_61 rfl rfl ?_
        refine zr_iadd (pc := 62) h dX12_letter_62 ?_
        obtain ⟨q6, hf⟩ := zCk_s hf
        refine zr_iald (pc := 63) h gkc_269 q6 rfl dX12_letter_63 ?_
        refine zr_topi h (fun x7 ex7 => ?_)
        have hf := zLt_s ex7 hf
        refine zr_istore (pc := 64) h dX12_letter_64 (by decide) rfl ?_
        refine zr_iconst (pc := 66) (v := (0 : Int32)) h dX12_letter_66 (by decide) ?_
        refine zr_istore (pc := 67) h dX12_letter_67 (by decide) rfl ?_
        exact zr_weak h [false, false, false, true, true, true] (fX12_letter_l69_ok h 100000 _ _ _ _ hf)
      · have hf := hf.1 b12
        refine zr_iconst (pc := 49) (v := (-1 : Int32)) h dX12_letter_49 (by decide) ?_
        exact zr_iret (pc := 50) h dX12_letter_50 (zRp hf).1 (zRp hf).2

set_option maxRecDepth 100000 in
set_option maxHeartbeats 4000000 in
theorem cX12_track_ok {l : Launch} {g : gG} {a1 : Int32} {a2 : Int32} {μ : gM} {r : Int32} {ν : gM} (hf : fX12_track a1 a2 μ = some (r, ν)) : gMet l g yX12_track cX12_track 3 (some .int) 1 25 [.ref (g.1 + 267), .int a1, .int a2] μ (some (.int r)) ν := by
  refine gMet_of (gIni [.ref (g.1 + 267), .int a1, .int a2] ++ List.replicate 0 none) (by decide) (gIni_ok _ _) (Nat.le_of_ble_eq_true rfl) (fun K h => ?_)
  show K 0 [some (.ref (g.1 + 267)), some (.int a1), some (.int a2)] [] μ
  unfold fX12_track at hf
  refine zr_aload_n (pc := 0) h dX12_track_0 rfl rfl ?_
  refine zr_iconst (pc := 1) (v := (0 : Int32)) h dX12_track_1 (by decide) ?_
  refine zp_X12_46 (pc := 2) h gkc_267 dX12_track_2 ?_
  refine zr_mu h (fun μ1 eμ1 => ?_)
  have hf := zLt_s eμ1 hf
  refine zr_iload_n (pc := 5) h dX12_track_5 rfl rfl ?_
  refine zr_i2l (pc := 6) h dX12_track_6 ?_
  refine zr_lconst (pc := 7) (v := (0 : Int64)) h dX12_track_7 (by decide) ?_
  refine zr_aload_n (pc := 8) h dX12_track_8 rfl rfl ?_
  refine zf_X12_17 (pc := 9) h gkc_267 dX12_track_9 ?_
  refine zr_iconst (pc := 12) (v := (3 : Int32)) h dX12_track_12 (by decide) ?_
  refine zr_iald (pc := 13) (q := 3) h gkc_269 rfl (by decide) dX12_track_13 ?_
  refine zr_iconst (pc := 14) (v := (1 : Int32)) h dX12_track_14 (by decide) ?_
  refine zr_isub (pc := 15) h dX12_track_15 ?_
  refine zr_i2l (pc := 16) h dX12_track_16 ?_
  obtain ⟨x2, ex2, hf⟩ := zBd_s hf
  refine zm_X12_56 (pc := 17) h ⟨by decide, by decide⟩ (cX12_isIn_ok ex2) rfl (Nat.le_of_ble_eq_true rfl) dX12_track_17 rfl ?_
  have hf := zIf_s hf
  refine zr_if_eq (pc := 20) (tgt := 51) h dX12_track_20 rfl (fun b6 => ?_) (fun b6 => ?_)
  · have hf := hf.1 b6
    refine zr_iconst (pc := 51) (v := (-1 : Int32)) h dX12_track_51 (by decide) ?_
    exact zr_iret (pc := 52) h dX12_track_52 (zRp hf).1 (zRp hf).2
  · have hf := hf.2 b6
    refine zr_iload_n (pc := 23) h dX12_track_23 rfl rfl ?_
    refine zr_i2l (pc := 24) h dX12_track_24 ?_
    refine zr_lconst (pc := 25) (v := (0 : Int64)) h dX12_track_25 (by decide) ?_
    refine zr_ldc2 (pc := 26) h zw_1729 dX12_track_26 ?_
    obtain ⟨x3, ex3, hf⟩ := zBd_s hf
    refine zm_X12_56 (pc := 29) h ⟨by decide, by decide⟩ (cX12_isIn_ok ex3) rfl (Nat.le_of_ble_eq_true rfl) dX12_track_29 rfl ?_
    have hf := zIf_s hf
    refine zr_if_eq (pc := 32) (tgt := 51) h dX12_track_32 rfl (fun b5 => ?_) (fun b5 => ?_)
    · have hf := hf.1 b5
      refine zr_iconst (pc := 51) (v := (-1 : Int32)) h dX12_track_51 (by decide) ?_
      exact zr_iret (pc := 52) h dX12_track_52 (zRp hf).1 (zRp hf).2
    · have hf := hf.2 b5
      refine zr_aload_n (pc := 35) h dX12_track_35 rfl rfl ?_
      refine zf_X12_17 (pc := 36) h gkc_267 dX12_track_36 ?_
      refine zr_bipush (pc := 39) (v := (113 : Int32)) h dX12_track_39 (by decide) ?_
      refine zr_iconst (pc := 41) (v := (4 : Int32)) h dX12_track_41 (by decide) ?_
      refine zr_iload_n (pc := 42) h dX12_track_42 rfl rfl ?_
      refine zr_imul (pc := 43) h dX12_track_43 ?_
      refine zr_iadd (pc := 44) h dX12_track_44 ?_
      refine zr_iload_n (pc := 45) h dX12_track_45 rfl rfl ?_
      refine zr_iadd (pc := 46) h dX12_track_46 ?_
      obtain ⟨q4, hf⟩ := zCk_s hf
      refine zr_iald (pc := 47) h gkc_269 q4 rfl dX12_track_47 ?_
      refine zr_goto (pc := 48) (tgt := 52) h dX12_track_48 rfl ?_
      exact zr_iret (pc := 52) h dX12_track_52 (zRp hf).1 (zRp hf).2

set_option maxRecDepth 100000 in
set_option maxHeartbeats 4000000 in
theorem cX12_event_ok {l : Launch} {g : gG} {a1 : Int32} {a2 : Int32} {μ : gM} {r : Int32} {ν : gM} (hf : fX12_event a1 a2 μ = some (r, ν)) : gMet l g yX12_event cX12_event 3 (some .int) 1 25 [.ref (g.1 + 267), .int a1, .int a2] μ (some (.int r)) ν := by
  refine gMet_of (gIni [.ref (g.1 + 267), .int a1, .int a2] ++ List.replicate 0 none) (by decide) (gIni_ok _ _) (Nat.le_of_ble_eq_true rfl) (fun K h => ?_)
  show K 0 [some (.ref (g.1 + 267)), some (.int a1), some (.int a2)] [] μ
  unfold fX12_event at hf
  refine zr_aload_n (pc := 0) h dX12_event_0 rfl rfl ?_
  refine zr_iconst (pc := 1) (v := (0 : Int32)) h dX12_event_1 (by decide) ?_
  refine zp_X12_46 (pc := 2) h gkc_267 dX12_event_2 ?_
  refine zr_mu h (fun μ1 eμ1 => ?_)
  have hf := zLt_s eμ1 hf
  refine zr_iload_n (pc := 5) h dX12_event_5 rfl rfl ?_
  refine zr_i2l (pc := 6) h dX12_event_6 ?_
  refine zr_lconst (pc := 7) (v := (0 : Int64)) h dX12_event_7 (by decide) ?_
  refine zr_aload_n (pc := 8) h dX12_event_8 rfl rfl ?_
  refine zf_X12_27 (pc := 9) h gkc_267 dX12_event_9 ?_
  refine zr_bipush (pc := 12) (v := (8 : Int32)) h dX12_event_12 (by decide) ?_
  refine zr_iald (pc := 14) (q := 8) h gkc_272 rfl (by decide) dX12_event_14 ?_
  refine zr_iconst (pc := 15) (v := (1 : Int32)) h dX12_event_15 (by decide) ?_
  refine zr_isub (pc := 16) h dX12_event_16 ?_
  refine zr_i2l (pc := 17) h dX12_event_17 ?_
  obtain ⟨x2, ex2, hf⟩ := zBd_s hf
  refine zm_X12_56 (pc := 18) h ⟨by decide, by decide⟩ (cX12_isIn_ok ex2) rfl (Nat.le_of_ble_eq_true rfl) dX12_event_18 rfl ?_
  have hf := zIf_s hf
  refine zr_if_eq (pc := 21) (tgt := 53) h dX12_event_21 rfl (fun b6 => ?_) (fun b6 => ?_)
  · have hf := hf.1 b6
    refine zr_iconst (pc := 53) (v := (-1 : Int32)) h dX12_event_53 (by decide) ?_
    exact zr_iret (pc := 54) h dX12_event_54 (zRp hf).1 (zRp hf).2
  · have hf := hf.2 b6
    refine zr_iload_n (pc := 24) h dX12_event_24 rfl rfl ?_
    refine zr_i2l (pc := 25) h dX12_event_25 ?_
    refine zr_lconst (pc := 26) (v := (0 : Int64)) h dX12_event_26 (by decide) ?_
    refine zr_ldc2 (pc := 27) h zw_1734 dX12_event_27 ?_
    obtain ⟨x3, ex3, hf⟩ := zBd_s hf
    refine zm_X12_56 (pc := 30) h ⟨by decide, by decide⟩ (cX12_isIn_ok ex3) rfl (Nat.le_of_ble_eq_true rfl) dX12_event_30 rfl ?_
    have hf := zIf_s hf
    refine zr_if_eq (pc := 33) (tgt := 53) h dX12_event_33 rfl (fun b5 => ?_) (fun b5 => ?_)
    · have hf := hf.1 b5
      refine zr_iconst (pc := 53) (v := (-1 : Int32)) h dX12_event_53 (by decide) ?_
      exact zr_iret (pc := 54) h dX12_event_54 (zRp hf).1 (zRp hf).2
    · have hf := hf.2 b5
      refine zr_aload_n (pc := 36) h dX12_event_36 rfl rfl ?_
      refine zf_X12_27 (pc := 37) h gkc_267 dX12_event_37 ?_
      refine zr_sipush (pc := 40) (v := (145 : Int32)) h dX12_event_40 (by decide) ?_
      refine zr_iconst (pc := 43) (v := (5 : Int32)) h dX12_event_43 (by decide) ?_
      refine zr_iload_n (pc := 44) h dX12_event_44 rfl rfl ?_
      refine zr_imul (pc := 45) h dX12_event_45 ?_
      refine zr_iadd (pc := 46) h dX12_event_46 ?_
      refine zr_iload_n (pc := 47) h dX12_event_47 rfl rfl ?_
      refine zr_iadd (pc := 48) h dX12_event_48 ?_
      obtain ⟨q4, hf⟩ := zCk_s hf
      refine zr_iald (pc := 49) h gkc_272 q4 rfl dX12_event_49 ?_
      refine zr_goto (pc := 50) (tgt := 54) h dX12_event_50 rfl ?_
      exact zr_iret (pc := 54) h dX12_event_54 (zRp hf).1 (zRp hf).2

set_option maxRecDepth 100000 in
set_option maxHeartbeats 4000000 in
theorem fX12_ticks_l47_ok {l : Launch} {g : gG} {r : Int32} {ν : gM} {K : gKt} (h : gR l g cX12_ticks RX12 3 (some .int) (gRm 8 180) (some (.int r)) ν K) : ∀ (n : Nat) (y1 : Int32) (y2 : Int32) (μ : gM), fX12_ticks_l47 n y1 y2 μ = some (r, ν) → K 47 [some (.ref (g.1 + 267)), some (.int y1), some (.int y2)] [] μ := by
  intro n
  induction n with
  | zero =>
    intro y1 y2 μ hf
    cases (show (none : Option (Int32 × gM)) = some _ from hf)
  | succ n ih =>
    intro y1 y2 μ hf
    unfold fX12_ticks_l47 at hf
    refine zr_iload_n (pc := 47) h dX12_ticks_47 rfl rfl ?_
    refine zr_iload_n (pc := 48) h dX12_ticks_48 rfl rfl ?_
    have hf := zIf_s hf
    refine zr_icmp_ge (pc := 49) (tgt := 62) h dX12_ticks_49 rfl (fun b6 => ?_) (fun b6 => ?_)
    · have hf := hf.1 b6
      refine zr_aload_n (pc := 62) h dX12_ticks_62 rfl rfl ?_
      refine zf_X12_27 (pc := 63) h gkc_267 dX12_ticks_63 ?_
      refine zr_iconst (pc := 66) (v := (0 : Int32)) h dX12_ticks_66 (by decide) ?_
      refine zr_iald (pc := 67) (q := 0) h gkc_272 rfl (by decide) dX12_ticks_67 ?_
      exact zr_iret (pc := 68) h dX12_ticks_68 (zRp hf).1 (zRp hf).2
    · have hf := hf.2 b6
      refine zr_aload_n (pc := 52) h dX12_ticks_52 rfl rfl ?_
      obtain ⟨μ4, eμ4, hf⟩ := zBd_s hf
      refine zm_X12_369 (pc := 53) h gkc_267 ⟨by decide, by decide⟩ (cX12_tickGoes_ok eμ4) rfl (Nat.le_of_ble_eq_true rfl) dX12_ticks_53 rfl ?_
      refine zr_iincx (pc := 56) h dX12_ticks_56 rfl (by decide) rfl (c := (1 : Int32)) (by decide) (fun x5 ex5 => ?_)
      have hf := zLt_s ex5 hf
      refine zr_goto (pc := 59) (tgt := 47) h dX12_ticks_59 rfl ?_
      exact zr_weak h [true, true, true] (ih _ _ _ hf)

set_option maxRecDepth 100000 in
set_option maxHeartbeats 4000000 in
theorem cX12_ticks_ok {l : Launch} {g : gG} {a1 : Int32} {μ : gM} {r : Int32} {ν : gM} (hf : fX12_ticks a1 μ = some (r, ν)) : gMet l g yX12_ticks cX12_ticks 3 (some .int) 8 180 [.ref (g.1 + 267), .int a1] μ (some (.int r)) ν := by
  refine gMet_of (gIni [.ref (g.1 + 267), .int a1] ++ List.replicate 1 none) (by decide) (gIni_ok _ _) (Nat.le_of_ble_eq_true rfl) (fun K h => ?_)
  show K 0 [some (.ref (g.1 + 267)), some (.int a1), none] [] μ
  unfold fX12_ticks at hf
  refine zr_aload_n (pc := 0) h dX12_ticks_0 rfl rfl ?_
  refine zr_iconst (pc := 1) (v := (0 : Int32)) h dX12_ticks_1 (by decide) ?_
  refine zp_X12_46 (pc := 2) h gkc_267 dX12_ticks_2 ?_
  refine zr_mu h (fun μ1 eμ1 => ?_)
  have hf := zLt_s eμ1 hf
  refine zr_aload_n (pc := 5) h dX12_ticks_5 rfl rfl ?_
  refine zf_X12_224 (pc := 6) h gkc_267 dX12_ticks_6 ?_
  have hf := zIf_s hf
  refine zr_if_eq (pc := 9) (tgt := 38) h dX12_ticks_9 rfl (fun b9 => ?_) (fun b9 => ?_)
  · have hf := hf.1 b9
    refine zr_bipush (pc := 38) (v := (-2 : Int32)) h dX12_ticks_38 (by decide) ?_
    exact zr_iret (pc := 40) h dX12_ticks_40 (zRp hf).1 (zRp hf).2
  · have hf := hf.2 b9
    refine zr_iload_n (pc := 12) h dX12_ticks_12 rfl rfl ?_
    refine zr_i2l (pc := 13) h dX12_ticks_13 ?_
    refine zr_lconst (pc := 14) (v := (1 : Int64)) h dX12_ticks_14 (by decide) ?_
    refine zr_ldc2 (pc := 15) h zw_1739 dX12_ticks_15 ?_
    obtain ⟨x2, ex2, hf⟩ := zBd_s hf
    refine zm_X12_56 (pc := 18) h ⟨by decide, by decide⟩ (cX12_isIn_ok ex2) rfl (Nat.le_of_ble_eq_true rfl) dX12_ticks_18 rfl ?_
    have hf := zIf_s hf
    refine zr_if_eq (pc := 21) (tgt := 38) h dX12_ticks_21 rfl (fun b8 => ?_) (fun b8 => ?_)
    · have hf := hf.1 b8
      refine zr_bipush (pc := 38) (v := (-2 : Int32)) h dX12_ticks_38 (by decide) ?_
      exact zr_iret (pc := 40) h dX12_ticks_40 (zRp hf).1 (zRp hf).2
    · have hf := hf.2 b8
      refine zr_aload_n (pc := 24) h dX12_ticks_24 rfl rfl ?_
      refine zf_X12_27 (pc := 25) h gkc_267 dX12_ticks_25 ?_
      refine zr_iconst (pc := 28) (v := (0 : Int32)) h dX12_ticks_28 (by decide) ?_
      refine zr_iald (pc := 29) (q := 0) h gkc_272 rfl (by decide) dX12_ticks_29 ?_
      refine zr_iload_n (pc := 30) h dX12_ticks_30 rfl rfl ?_
      refine zr_iadd (pc := 31) h dX12_ticks_31 ?_
      refine zr_sipush (pc := 32) (v := (9999 : Int32)) h dX12_ticks_32 (by decide) ?_
      have hf := zIf_s hf
      refine zr_icmp_le (pc := 35) (tgt := 41) h dX12_ticks_35 rfl (fun b7 => ?_) (fun b7 => ?_)
      · have hf := hf.1 b7
        refine zr_aload_n (pc := 41) h dX12_ticks_41 rfl rfl ?_
        obtain ⟨μ3, eμ3, hf⟩ := zBd_s hf
        refine zm_X12_247 (pc := 42) h gkc_267 ⟨by decide, by decide⟩ (cX12_keepsAct_ok eμ3) rfl (Nat.le_of_ble_eq_true rfl) dX12_ticks_42 rfl ?_
        refine zr_iconst (pc := 45) (v := (0 : Int32)) h dX12_ticks_45 (by decide) ?_
        refine zr_istore_n (pc := 46) h dX12_ticks_46 rfl (by decide) rfl ?_
        exact zr_weak h [true, true, true] (fX12_ticks_l47_ok h 100000 _ _ _ hf)
      · have hf := hf.2 b7
        refine zr_bipush (pc := 38) (v := (-2 : Int32)) h dX12_ticks_38 (by decide) ?_
        exact zr_iret (pc := 40) h dX12_ticks_40 (zRp hf).1 (zRp hf).2

set_option maxRecDepth 100000 in
set_option maxHeartbeats 4000000 in
theorem cX12_up_ok {l : Launch} {g : gG} {a1 : Int32} {μ : gM} {r : Int32} {ν : gM} (hf : fX12_up a1 μ = some (r, ν)) : gMet l g yX12_up cX12_up 2 (some .int) 6 133 [.ref (g.1 + 267), .int a1] μ (some (.int r)) ν := by
  refine gMet_of (gIni [.ref (g.1 + 267), .int a1] ++ List.replicate 0 none) (by decide) (gIni_ok _ _) (Nat.le_of_ble_eq_true rfl) (fun K h => ?_)
  show K 0 [some (.ref (g.1 + 267)), some (.int a1)] [] μ
  unfold fX12_up at hf
  refine zr_aload_n (pc := 0) h dX12_up_0 rfl rfl ?_
  refine zr_iconst (pc := 1) (v := (0 : Int32)) h dX12_up_1 (by decide) ?_
  refine zp_X12_46 (pc := 2) h gkc_267 dX12_up_2 ?_
  refine zr_mu h (fun μ1 eμ1 => ?_)
  have hf := zLt_s eμ1 hf
  refine zr_aload_n (pc := 5) h dX12_up_5 rfl rfl ?_
  refine zr_iload_n (pc := 6) h dX12_up_6 rfl rfl ?_
  obtain ⟨x2, ex2, hf⟩ := zBd_s hf
  refine zm_X12_262 (pc := 7) h gkc_267 ⟨by decide, by decide⟩ (cX12_isGate_ok ex2) rfl (Nat.le_of_ble_eq_true rfl) dX12_up_7 rfl ?_
  have hf := zIf_s hf
  refine zr_if_ne (pc := 10) (tgt := 16) h dX12_up_10 rfl (fun b7 => ?_) (fun b7 => ?_)
  · have hf := hf.2 b7
    refine zr_aload_n (pc := 16) h dX12_up_16 rfl rfl ?_
    refine zr_iload_n (pc := 17) h dX12_up_17 rfl rfl ?_
    obtain ⟨x3, ex3, hf⟩ := zBd_s hf
    refine zm_X12_305 (pc := 18) h gkc_267 ⟨by decide, by decide⟩ (cX12_isUp_ok ex3) rfl (Nat.le_of_ble_eq_true rfl) dX12_up_18 rfl ?_
    have hf := zIf_s hf
    refine zr_if_eq (pc := 21) (tgt := 27) h dX12_up_21 rfl (fun b6 => ?_) (fun b6 => ?_)
    · have hf := hf.1 b6
      refine zr_aload_n (pc := 27) h dX12_up_27 rfl rfl ?_
      obtain ⟨μ4, eμ4, hf⟩ := zBd_s hf
      refine zm_X12_247 (pc := 28) h gkc_267 ⟨by decide, by decide⟩ (cX12_keepsAct_ok eμ4) rfl (Nat.le_of_ble_eq_true rfl) dX12_up_28 rfl ?_
      refine zr_aload_n (pc := 31) h dX12_up_31 rfl rfl ?_
      refine zr_iload_n (pc := 32) h dX12_up_32 rfl rfl ?_
      obtain ⟨μ5, eμ5, hf⟩ := zBd_s hf
      refine zm_X12_308 (pc := 33) h gkc_267 ⟨by decide, by decide⟩ (cX12_comesUp_ok eμ5) rfl (Nat.le_of_ble_eq_true rfl) dX12_up_33 rfl ?_
      refine zr_iconst (pc := 36) (v := (1 : Int32)) h dX12_up_36 (by decide) ?_
      exact zr_iret (pc := 37) h dX12_up_37 (zRp hf).1 (zRp hf).2
    · have hf := hf.2 b6
      refine zr_bipush (pc := 24) (v := (-3 : Int32)) h dX12_up_24 (by decide) ?_
      exact zr_iret (pc := 26) h dX12_up_26 (zRp hf).1 (zRp hf).2
  · have hf := hf.1 b7
    refine zr_bipush (pc := 13) (v := (-2 : Int32)) h dX12_up_13 (by decide) ?_
    exact zr_iret (pc := 15) h dX12_up_15 (zRp hf).1 (zRp hf).2

set_option maxRecDepth 100000 in
set_option maxHeartbeats 4000000 in
theorem cX12_down_ok {l : Launch} {g : gG} {a1 : Int32} {a2 : Int32} {μ : gM} {r : Int32} {ν : gM} (hf : fX12_down a1 a2 μ = some (r, ν)) : gMet l g yX12_down cX12_down 3 (some .int) 5 117 [.ref (g.1 + 267), .int a1, .int a2] μ (some (.int r)) ν := by
  refine gMet_of (gIni [.ref (g.1 + 267), .int a1, .int a2] ++ List.replicate 0 none) (by decide) (gIni_ok _ _) (Nat.le_of_ble_eq_true rfl) (fun K h => ?_)
  show K 0 [some (.ref (g.1 + 267)), some (.int a1), some (.int a2)] [] μ
  unfold fX12_down at hf
  refine zr_aload_n (pc := 0) h dX12_down_0 rfl rfl ?_
  refine zr_iconst (pc := 1) (v := (0 : Int32)) h dX12_down_1 (by decide) ?_
  refine zp_X12_46 (pc := 2) h gkc_267 dX12_down_2 ?_
  refine zr_mu h (fun μ1 eμ1 => ?_)
  have hf := zLt_s eμ1 hf
  refine zr_aload_n (pc := 5) h dX12_down_5 rfl rfl ?_
  refine zr_iload_n (pc := 6) h dX12_down_6 rfl rfl ?_
  obtain ⟨x2, ex2, hf⟩ := zBd_s hf
  refine zm_X12_262 (pc := 7) h gkc_267 ⟨by decide, by decide⟩ (cX12_isGate_ok ex2) rfl (Nat.le_of_ble_eq_true rfl) dX12_down_7 rfl ?_
  have hf := zIf_s hf
  refine zr_if_ne (pc := 10) (tgt := 16) h dX12_down_10 rfl (fun b8 => ?_) (fun b8 => ?_)
  · have hf := hf.2 b8
    refine zr_aload_n (pc := 16) h dX12_down_16 rfl rfl ?_
    refine zr_iload_n (pc := 17) h dX12_down_17 rfl rfl ?_
    obtain ⟨x3, ex3, hf⟩ := zBd_s hf
    refine zm_X12_305 (pc := 18) h gkc_267 ⟨by decide, by decide⟩ (cX12_isUp_ok ex3) rfl (Nat.le_of_ble_eq_true rfl) dX12_down_18 rfl ?_
    have hf := zIf_s hf
    refine zr_if_ne (pc := 21) (tgt := 27) h dX12_down_21 rfl (fun b7 => ?_) (fun b7 => ?_)
    · have hf := hf.2 b7
      refine zr_aload_n (pc := 27) h dX12_down_27 rfl rfl ?_
      obtain ⟨μ4, eμ4, hf⟩ := zBd_s hf
      refine zm_X12_247 (pc := 28) h gkc_267 ⟨by decide, by decide⟩ (cX12_keepsAct_ok eμ4) rfl (Nat.le_of_ble_eq_true rfl) dX12_down_28 rfl ?_
      refine zr_aload_n (pc := 31) h dX12_down_31 rfl rfl ?_
      refine zr_iload_n (pc := 32) h dX12_down_32 rfl rfl ?_
      refine zr_iload_n (pc := 33) h dX12_down_33 rfl rfl ?_
      obtain ⟨x5, μ6, ex5, hf⟩ := zBp_s hf
      refine zm_X12_311 (pc := 34) h gkc_267 ⟨by decide, by decide⟩ (cX12_goesDown_ok ex5) rfl (Nat.le_of_ble_eq_true rfl) dX12_down_34 rfl ?_
      exact zr_iret (pc := 37) h dX12_down_37 (zRp hf).1 (zRp hf).2
    · have hf := hf.1 b7
      refine zr_bipush (pc := 24) (v := (-3 : Int32)) h dX12_down_24 (by decide) ?_
      exact zr_iret (pc := 26) h dX12_down_26 (zRp hf).1 (zRp hf).2
  · have hf := hf.1 b8
    refine zr_bipush (pc := 13) (v := (-2 : Int32)) h dX12_down_13 (by decide) ?_
    exact zr_iret (pc := 15) h dX12_down_15 (zRp hf).1 (zRp hf).2

set_option maxRecDepth 100000 in
set_option maxHeartbeats 4000000 in
theorem cX12_cut_ok {l : Launch} {g : gG} {a1 : Int32} {a2 : Int32} {μ : gM} {r : Int32} {ν : gM} (hf : fX12_cut a1 a2 μ = some (r, ν)) : gMet l g yX12_cut cX12_cut 3 (some .int) 2 43 [.ref (g.1 + 267), .int a1, .int a2] μ (some (.int r)) ν := by
  refine gMet_of (gIni [.ref (g.1 + 267), .int a1, .int a2] ++ List.replicate 0 none) (by decide) (gIni_ok _ _) (Nat.le_of_ble_eq_true rfl) (fun K h => ?_)
  show K 0 [some (.ref (g.1 + 267)), some (.int a1), some (.int a2)] [] μ
  unfold fX12_cut at hf
  refine zr_aload_n (pc := 0) h dX12_cut_0 rfl rfl ?_
  refine zr_iconst (pc := 1) (v := (0 : Int32)) h dX12_cut_1 (by decide) ?_
  refine zp_X12_46 (pc := 2) h gkc_267 dX12_cut_2 ?_
  refine zr_mu h (fun μ1 eμ1 => ?_)
  have hf := zLt_s eμ1 hf
  refine zr_iload_n (pc := 5) h dX12_cut_5 rfl rfl ?_
  refine zr_i2l (pc := 6) h dX12_cut_6 ?_
  refine zr_lconst (pc := 7) (v := (0 : Int64)) h dX12_cut_7 (by decide) ?_
  refine zr_aload_n (pc := 8) h dX12_cut_8 rfl rfl ?_
  refine zf_X12_17 (pc := 9) h gkc_267 dX12_cut_9 ?_
  refine zr_iconst (pc := 12) (v := (1 : Int32)) h dX12_cut_12 (by decide) ?_
  refine zr_iald (pc := 13) (q := 1) h gkc_269 rfl (by decide) dX12_cut_13 ?_
  refine zr_iconst (pc := 14) (v := (1 : Int32)) h dX12_cut_14 (by decide) ?_
  refine zr_isub (pc := 15) h dX12_cut_15 ?_
  refine zr_i2l (pc := 16) h dX12_cut_16 ?_
  obtain ⟨x2, ex2, hf⟩ := zBd_s hf
  refine zm_X12_56 (pc := 17) h ⟨by decide, by decide⟩ (cX12_isIn_ok ex2) rfl (Nat.le_of_ble_eq_true rfl) dX12_cut_17 rfl ?_
  have hf := zIf_s hf
  refine zr_if_ne (pc := 20) (tgt := 26) h dX12_cut_20 rfl (fun b7 => ?_) (fun b7 => ?_)
  · have hf := hf.2 b7
    refine zr_aload_n (pc := 26) h dX12_cut_26 rfl rfl ?_
    refine zf_X12_27 (pc := 27) h gkc_267 dX12_cut_27 ?_
    refine zr_iconst (pc := 30) (v := (2 : Int32)) h dX12_cut_30 (by decide) ?_
    refine zr_iald (pc := 31) (q := 2) h gkc_272 rfl (by decide) dX12_cut_31 ?_
    refine zr_iload_n (pc := 32) h dX12_cut_32 rfl rfl ?_
    obtain ⟨x3, ex3, hf⟩ := zBd_s hf
    refine zm_X12_186 (pc := 33) h ⟨by decide, by decide⟩ (cX12_isOf_ok ex3) rfl (Nat.le_of_ble_eq_true rfl) dX12_cut_33 rfl ?_
    refine zr_iload_n (pc := 36) h dX12_cut_36 rfl rfl ?_
    have hf := zIf_s hf
    refine zr_icmp_ne (pc := 37) (tgt := 43) h dX12_cut_37 rfl (fun b6 => ?_) (fun b6 => ?_)
    · have hf := hf.2 b6
      refine zr_aload_n (pc := 43) h dX12_cut_43 rfl rfl ?_
      obtain ⟨μ4, eμ4, hf⟩ := zBd_s hf
      refine zm_X12_247 (pc := 44) h gkc_267 ⟨by decide, by decide⟩ (cX12_keepsAct_ok eμ4) rfl (Nat.le_of_ble_eq_true rfl) dX12_cut_44 rfl ?_
      refine zr_aload_n (pc := 47) h dX12_cut_47 rfl rfl ?_
      refine zf_X12_27 (pc := 48) h gkc_267 dX12_cut_48 ?_
      refine zr_iconst (pc := 51) (v := (2 : Int32)) h dX12_cut_51 (by decide) ?_
      refine zr_dup2 (pc := 52) h dX12_cut_52 rfl rfl ?_
      refine zr_iald (pc := 53) (q := 2) h gkc_272 rfl (by decide) dX12_cut_53 ?_
      refine zr_iconst (pc := 54) (v := (1 : Int32)) h dX12_cut_54 (by decide) ?_
      refine zr_iload_n (pc := 55) h dX12_cut_55 rfl rfl ?_
      refine zr_ishl (pc := 56) h dX12_cut_56 ?_
      refine zr_ixor (pc := 57) h dX12_cut_57 ?_
      refine zr_iast (pc := 58) (q := 2) h gkc_272 rfl (by decide) dX12_cut_58 ?_
      refine zr_mu h (fun μ5 eμ5 => ?_)
      have hf := zLt_s eμ5 hf
      refine zr_iconst (pc := 59) (v := (1 : Int32)) h dX12_cut_59 (by decide) ?_
      exact zr_iret (pc := 60) h dX12_cut_60 (zRp hf).1 (zRp hf).2
    · have hf := hf.1 b6
      refine zr_bipush (pc := 40) (v := (-3 : Int32)) h dX12_cut_40 (by decide) ?_
      exact zr_iret (pc := 42) h dX12_cut_42 (zRp hf).1 (zRp hf).2
  · have hf := hf.1 b7
    refine zr_bipush (pc := 23) (v := (-2 : Int32)) h dX12_cut_23 (by decide) ?_
    exact zr_iret (pc := 25) h dX12_cut_25 (zRp hf).1 (zRp hf).2

set_option maxRecDepth 100000 in
set_option maxHeartbeats 4000000 in
theorem cX12_split_ok {l : Launch} {g : gG} {a1 : Int32} {μ : gM} {r : Int32} {ν : gM} (hf : fX12_split a1 μ = some (r, ν)) : gMet l g yX12_split cX12_split 2 (some .int) 2 43 [.ref (g.1 + 267), .int a1] μ (some (.int r)) ν := by
  refine gMet_of (gIni [.ref (g.1 + 267), .int a1] ++ List.replicate 0 none) (by decide) (gIni_ok _ _) (Nat.le_of_ble_eq_true rfl) (fun K h => ?_)
  show K 0 [some (.ref (g.1 + 267)), some (.int a1)] [] μ
  unfold fX12_split at hf
  refine zr_aload_n (pc := 0) h dX12_split_0 rfl rfl ?_
  refine zr_iconst (pc := 1) (v := (0 : Int32)) h dX12_split_1 (by decide) ?_
  refine zp_X12_46 (pc := 2) h gkc_267 dX12_split_2 ?_
  refine zr_mu h (fun μ1 eμ1 => ?_)
  have hf := zLt_s eμ1 hf
  refine zr_aload_n (pc := 5) h dX12_split_5 rfl rfl ?_
  refine zf_X12_224 (pc := 6) h gkc_267 dX12_split_6 ?_
  have hf := zIf_s hf
  refine zr_if_eq (pc := 9) (tgt := 30) h dX12_split_9 rfl (fun b8 => ?_) (fun b8 => ?_)
  · have hf := hf.1 b8
    refine zr_bipush (pc := 30) (v := (-2 : Int32)) h dX12_split_30 (by decide) ?_
    exact zr_iret (pc := 32) h dX12_split_32 (zRp hf).1 (zRp hf).2
  · have hf := hf.2 b8
    refine zr_iload_n (pc := 12) h dX12_split_12 rfl rfl ?_
    refine zr_i2l (pc := 13) h dX12_split_13 ?_
    refine zr_lconst (pc := 14) (v := (0 : Int64)) h dX12_split_14 (by decide) ?_
    refine zr_iconst (pc := 15) (v := (1 : Int32)) h dX12_split_15 (by decide) ?_
    refine zr_aload_n (pc := 16) h dX12_split_16 rfl rfl ?_
    obtain ⟨x2, ex2, hf⟩ := zBd_s hf
    refine zm_X12_256 (pc := 17) h gkc_267 ⟨by decide, by decide⟩ (cX12_gates_ok ex2) rfl (Nat.le_of_ble_eq_true rfl) dX12_split_17 rfl ?_
    refine zr_ishl (pc := 20) h dX12_split_20 ?_
    refine zr_iconst (pc := 21) (v := (1 : Int32)) h dX12_split_21 (by decide) ?_
    refine zr_isub (pc := 22) h dX12_split_22 ?_
    refine zr_i2l (pc := 23) h dX12_split_23 ?_
    obtain ⟨x3, ex3, hf⟩ := zBd_s hf
    refine zm_X12_56 (pc := 24) h ⟨by decide, by decide⟩ (cX12_isIn_ok ex3) rfl (Nat.le_of_ble_eq_true rfl) dX12_split_24 rfl ?_
    have hf := zIf_s hf
    refine zr_if_ne (pc := 27) (tgt := 33) h dX12_split_27 rfl (fun b7 => ?_) (fun b7 => ?_)
    · have hf := hf.2 b7
      refine zr_aload_n (pc := 33) h dX12_split_33 rfl rfl ?_
      refine zf_X12_27 (pc := 34) h gkc_267 dX12_split_34 ?_
      refine zr_iconst (pc := 37) (v := (3 : Int32)) h dX12_split_37 (by decide) ?_
      refine zr_iald (pc := 38) (q := 3) h gkc_272 rfl (by decide) dX12_split_38 ?_
      refine zr_iload_n (pc := 39) h dX12_split_39 rfl rfl ?_
      have hf := zIf_s hf
      refine zr_icmp_ne (pc := 40) (tgt := 46) h dX12_split_40 rfl (fun b6 => ?_) (fun b6 => ?_)
      · have hf := hf.2 b6
        refine zr_aload_n (pc := 46) h dX12_split_46 rfl rfl ?_
        obtain ⟨μ4, eμ4, hf⟩ := zBd_s hf
        refine zm_X12_247 (pc := 47) h gkc_267 ⟨by decide, by decide⟩ (cX12_keepsAct_ok eμ4) rfl (Nat.le_of_ble_eq_true rfl) dX12_split_47 rfl ?_
        refine zr_aload_n (pc := 50) h dX12_split_50 rfl rfl ?_
        refine zf_X12_27 (pc := 51) h gkc_267 dX12_split_51 ?_
        refine zr_iconst (pc := 54) (v := (3 : Int32)) h dX12_split_54 (by decide) ?_
        refine zr_iload_n (pc := 55) h dX12_split_55 rfl rfl ?_
        refine zr_iast (pc := 56) (q := 3) h gkc_272 rfl (by decide) dX12_split_56 ?_
        refine zr_mu h (fun μ5 eμ5 => ?_)
        have hf := zLt_s eμ5 hf
        refine zr_iconst (pc := 57) (v := (1 : Int32)) h dX12_split_57 (by decide) ?_
        exact zr_iret (pc := 58) h dX12_split_58 (zRp hf).1 (zRp hf).2
      · have hf := hf.1 b6
        refine zr_bipush (pc := 43) (v := (-3 : Int32)) h dX12_split_43 (by decide) ?_
        exact zr_iret (pc := 45) h dX12_split_45 (zRp hf).1 (zRp hf).2
    · have hf := hf.1 b7
      refine zr_bipush (pc := 30) (v := (-2 : Int32)) h dX12_split_30 (by decide) ?_
      exact zr_iret (pc := 32) h dX12_split_32 (zRp hf).1 (zRp hf).2

set_option maxRecDepth 100000 in
set_option maxHeartbeats 4000000 in
theorem cX12_word_ok {l : Launch} {g : gG} {a1 : Int32} {a2 : Int32} {a3 : Int32} {μ : gM} {r : Int32} {ν : gM} (hf : fX12_word a1 a2 a3 μ = some (r, ν)) : gMet l g yX12_word cX12_word 5 (some .int) 3 68 [.ref (g.1 + 267), .int a1, .int a2, .int a3] μ (some (.int r)) ν := by
  refine gMet_of (gIni [.ref (g.1 + 267), .int a1, .int a2, .int a3] ++ List.replicate 1 none) (by decide) (gIni_ok _ _) (Nat.le_of_ble_eq_true rfl) (fun K h => ?_)
  show K 0 [some (.ref (g.1 + 267)), some (.int a1), some (.int a2), some (.int a3), none] [] μ
  unfold fX12_word at hf
  refine zr_aload_n (pc := 0) h dX12_word_0 rfl rfl ?_
  refine zr_iconst (pc := 1) (v := (0 : Int32)) h dX12_word_1 (by decide) ?_
  refine zp_X12_46 (pc := 2) h gkc_267 dX12_word_2 ?_
  refine zr_mu h (fun μ1 eμ1 => ?_)
  have hf := zLt_s eμ1 hf
  refine zr_aload_n (pc := 5) h dX12_word_5 rfl rfl ?_
  refine zr_iload_n (pc := 6) h dX12_word_6 rfl rfl ?_
  refine zr_iload_n (pc := 7) h dX12_word_7 rfl rfl ?_
  obtain ⟨x2, ex2, hf⟩ := zBd_s hf
  refine zm_X12_287 (pc := 8) h gkc_267 ⟨by decide, by decide⟩ (cX12_isMember_ok ex2) rfl (Nat.le_of_ble_eq_true rfl) dX12_word_8 rfl ?_
  have hf := zIf_s hf
  refine zr_if_eq (pc := 11) (tgt := 26) h dX12_word_11 rfl (fun b12 => ?_) (fun b12 => ?_)
  · have hf := hf.1 b12
    refine zr_bipush (pc := 26) (v := (-2 : Int32)) h dX12_word_26 (by decide) ?_
    exact zr_iret (pc := 28) h dX12_word_28 (zRp hf).1 (zRp hf).2
  · have hf := hf.2 b12
    refine zr_iload_n (pc := 14) h dX12_word_14 rfl rfl ?_
    refine zr_i2l (pc := 15) h dX12_word_15 ?_
    refine zr_lconst (pc := 16) (v := (1 : Int64)) h dX12_word_16 (by decide) ?_
    refine zr_ldc2 (pc := 17) h zw_1824 dX12_word_17 ?_
    obtain ⟨x3, ex3, hf⟩ := zBd_s hf
    refine zm_X12_56 (pc := 20) h ⟨by decide, by decide⟩ (cX12_isIn_ok ex3) rfl (Nat.le_of_ble_eq_true rfl) dX12_word_20 rfl ?_
    have hf := zIf_s hf
    refine zr_if_ne (pc := 23) (tgt := 29) h dX12_word_23 rfl (fun b11 => ?_) (fun b11 => ?_)
    · have hf := hf.2 b11
      refine zr_aload_n (pc := 29) h dX12_word_29 rfl rfl ?_
      obtain ⟨μ4, eμ4, hf⟩ := zBd_s hf
      refine zm_X12_247 (pc := 30) h gkc_267 ⟨by decide, by decide⟩ (cX12_keepsAct_ok eμ4) rfl (Nat.le_of_ble_eq_true rfl) dX12_word_30 rfl ?_
      refine zr_aload_n (pc := 33) h dX12_word_33 rfl rfl ?_
      refine zf_X12_27 (pc := 34) h gkc_267 dX12_word_34 ?_
      refine zr_bipush (pc := 37) (v := (10 : Int32)) h dX12_word_37 (by decide) ?_
      refine zr_iload_n (pc := 39) h dX12_word_39 rfl rfl ?_
      refine zr_iload_n (pc := 40) h dX12_word_40 rfl rfl ?_
      obtain ⟨x5, ex5, hf⟩ := zBd_s hf
      refine zm_X12_190 (pc := 41) h ⟨by decide, by decide⟩ (cX12_of_ok ex5) rfl (Nat.le_of_ble_eq_true rfl) dX12_word_41 rfl ?_
      refine zr_iadd (pc := 44) h dX12_word_44 ?_
      obtain ⟨q6, hf⟩ := zCk_s hf
      refine zr_iald (pc := 45) h gkc_272 q6 rfl dX12_word_45 ?_
      refine zr_topi h (fun x7 ex7 => ?_)
      have hf := zLt_s ex7 hf
      refine zr_istore (pc := 46) h dX12_word_46 (by decide) rfl ?_
      refine zr_aload_n (pc := 48) h dX12_word_48 rfl rfl ?_
      refine zf_X12_27 (pc := 49) h gkc_267 dX12_word_49 ?_
      refine zr_bipush (pc := 52) (v := (10 : Int32)) h dX12_word_52 (by decide) ?_
      refine zr_iload_n (pc := 54) h dX12_word_54 rfl rfl ?_
      refine zr_iload_n (pc := 55) h dX12_word_55 rfl rfl ?_
      obtain ⟨x8, ex8, hf⟩ := zBd_s hf
      refine zm_X12_190 (pc := 56) h ⟨by decide, by decide⟩ (cX12_of_ok ex8) rfl (Nat.le_of_ble_eq_true rfl) dX12_word_56 rfl ?_
      refine zr_iadd (pc := 59) h dX12_word_59 ?_
      refine zr_iload_n (pc := 60) h dX12_word_60 rfl rfl ?_
      obtain ⟨q9, hf⟩ := zCk_s hf
      refine zr_iast (pc := 61) h gkc_272 q9 rfl dX12_word_61 ?_
      refine zr_mu h (fun μ10 eμ10 => ?_)
      have hf := zLt_s eμ10 hf
      refine zr_iload (pc := 62) h dX12_word_62 rfl ?_
      exact zr_iret (pc := 64) h dX12_word_64 (zRp hf).1 (zRp hf).2
    · have hf := hf.1 b11
      refine zr_bipush (pc := 26) (v := (-2 : Int32)) h dX12_word_26 (by decide) ?_
      exact zr_iret (pc := 28) h dX12_word_28 (zRp hf).1 (zRp hf).2

set_option maxRecDepth 100000 in
set_option maxHeartbeats 4000000 in
theorem cX12_chance_ok {l : Launch} {g : gG} {a1 : Int32} {a2 : Int32} {μ : gM} {r : Int32} {ν : gM} (hf : fX12_chance a1 a2 μ = some (r, ν)) : gMet l g yX12_chance cX12_chance 3 (some .int) 2 43 [.ref (g.1 + 267), .int a1, .int a2] μ (some (.int r)) ν := by
  refine gMet_of (gIni [.ref (g.1 + 267), .int a1, .int a2] ++ List.replicate 0 none) (by decide) (gIni_ok _ _) (Nat.le_of_ble_eq_true rfl) (fun K h => ?_)
  show K 0 [some (.ref (g.1 + 267)), some (.int a1), some (.int a2)] [] μ
  unfold fX12_chance at hf
  refine zr_aload_n (pc := 0) h dX12_chance_0 rfl rfl ?_
  refine zr_iconst (pc := 1) (v := (0 : Int32)) h dX12_chance_1 (by decide) ?_
  refine zp_X12_46 (pc := 2) h gkc_267 dX12_chance_2 ?_
  refine zr_mu h (fun μ1 eμ1 => ?_)
  have hf := zLt_s eμ1 hf
  refine zr_aload_n (pc := 5) h dX12_chance_5 rfl rfl ?_
  refine zf_X12_224 (pc := 6) h gkc_267 dX12_chance_6 ?_
  have hf := zIf_s hf
  refine zr_if_eq (pc := 9) (tgt := 28) h dX12_chance_9 rfl (fun b8 => ?_) (fun b8 => ?_)
  · have hf := hf.1 b8
    refine zr_bipush (pc := 28) (v := (-2 : Int32)) h dX12_chance_28 (by decide) ?_
    exact zr_iret (pc := 30) h dX12_chance_30 (zRp hf).1 (zRp hf).2
  · have hf := hf.2 b8
    refine zr_iload_n (pc := 12) h dX12_chance_12 rfl rfl ?_
    refine zr_i2l (pc := 13) h dX12_chance_13 ?_
    refine zr_lconst (pc := 14) (v := (0 : Int64)) h dX12_chance_14 (by decide) ?_
    refine zr_ldc2 (pc := 15) h zw_1829 dX12_chance_15 ?_
    obtain ⟨x2, ex2, hf⟩ := zBd_s hf
    refine zm_X12_56 (pc := 18) h ⟨by decide, by decide⟩ (cX12_isIn_ok ex2) rfl (Nat.le_of_ble_eq_true rfl) dX12_chance_18 rfl ?_
    have hf := zIf_s hf
    refine zr_if_eq (pc := 21) (tgt := 28) h dX12_chance_21 rfl (fun b7 => ?_) (fun b7 => ?_)
    · have hf := hf.1 b7
      refine zr_bipush (pc := 28) (v := (-2 : Int32)) h dX12_chance_28 (by decide) ?_
      exact zr_iret (pc := 30) h dX12_chance_30 (zRp hf).1 (zRp hf).2
    · have hf := hf.2 b7
      refine zr_iload_n (pc := 24) h dX12_chance_24 rfl rfl ?_
      have hf := zIf_s hf
      refine zr_if_ge (pc := 25) (tgt := 31) h dX12_chance_25 rfl (fun b6 => ?_) (fun b6 => ?_)
      · have hf := hf.1 b6
        refine zr_aload_n (pc := 31) h dX12_chance_31 rfl rfl ?_
        obtain ⟨μ3, eμ3, hf⟩ := zBd_s hf
        refine zm_X12_247 (pc := 32) h gkc_267 ⟨by decide, by decide⟩ (cX12_keepsAct_ok eμ3) rfl (Nat.le_of_ble_eq_true rfl) dX12_chance_32 rfl ?_
        refine zr_aload_n (pc := 35) h dX12_chance_35 rfl rfl ?_
        refine zf_X12_27 (pc := 36) h gkc_267 dX12_chance_36 ?_
        refine zr_iconst (pc := 39) (v := (4 : Int32)) h dX12_chance_39 (by decide) ?_
        refine zr_iload_n (pc := 40) h dX12_chance_40 rfl rfl ?_
        refine zr_iast (pc := 41) (q := 4) h gkc_272 rfl (by decide) dX12_chance_41 ?_
        refine zr_mu h (fun μ4 eμ4 => ?_)
        have hf := zLt_s eμ4 hf
        refine zr_aload_n (pc := 42) h dX12_chance_42 rfl rfl ?_
        refine zf_X12_27 (pc := 43) h gkc_267 dX12_chance_43 ?_
        refine zr_bipush (pc := 46) (v := (9 : Int32)) h dX12_chance_46 (by decide) ?_
        refine zr_iload_n (pc := 48) h dX12_chance_48 rfl rfl ?_
        refine zr_iast (pc := 49) (q := 9) h gkc_272 rfl (by decide) dX12_chance_49 ?_
        refine zr_mu h (fun μ5 eμ5 => ?_)
        have hf := zLt_s eμ5 hf
        refine zr_iconst (pc := 50) (v := (1 : Int32)) h dX12_chance_50 (by decide) ?_
        exact zr_iret (pc := 51) h dX12_chance_51 (zRp hf).1 (zRp hf).2
      · have hf := hf.2 b6
        refine zr_bipush (pc := 28) (v := (-2 : Int32)) h dX12_chance_28 (by decide) ?_
        exact zr_iret (pc := 30) h dX12_chance_30 (zRp hf).1 (zRp hf).2

set_option maxRecDepth 100000 in
set_option maxHeartbeats 4000000 in
theorem fX12_strongestOf_l5_ok {l : Launch} {g : gG} {r : Int32} {μe : gM} {K : gKt} (h : gR l g cX12_strongestOf RX12 5 (some .int) (gRm 2 45) (some (.int r)) μe K) : ∀ (n : Nat) (y1 : Int32) (y2 : Int32) (y3 : Int32) (y4 : Int32), fX12_strongestOf_l5 n y1 y2 y3 y4 μe = some r → K 5 [some (.ref (g.1 + 267)), some (.int y1), some (.int y2), some (.int y3), some (.int y4)] [] μe := by
  intro n
  induction n with
  | zero =>
    intro y1 y2 y3 y4 hf
    cases (show (none : Option Int32) = some _ from hf)
  | succ n ih =>
    intro y1 y2 y3 y4 hf
    unfold fX12_strongestOf_l5 at hf
    refine zr_iload (pc := 5) h dX12_strongestOf_5 rfl ?_
    refine zr_aload_n (pc := 7) h dX12_strongestOf_7 rfl rfl ?_
    obtain ⟨x1, ex1, hf⟩ := zBd_s hf
    refine zm_X12_256 (pc := 8) h gkc_267 ⟨by decide, by decide⟩ (cX12_gates_ok ex1) rfl (Nat.le_of_ble_eq_true rfl) dX12_strongestOf_8 rfl ?_
    have hf := zIf_s hf
    refine zr_icmp_ge (pc := 11) (tgt := 59) h dX12_strongestOf_11 rfl (fun b13 => ?_) (fun b13 => ?_)
    · have hf := hf.1 b13
      refine zr_iload_n (pc := 59) h dX12_strongestOf_59 rfl rfl ?_
      exact zr_iret (pc := 60) h dX12_strongestOf_60 (zRi hf) rfl
    · have hf := hf.2 b13
      refine zr_iload_n (pc := 14) h dX12_strongestOf_14 rfl rfl ?_
      refine zr_iload (pc := 15) h dX12_strongestOf_15 rfl ?_
      obtain ⟨x2, ex2, hf⟩ := zBd_s hf
      refine zm_X12_186 (pc := 17) h ⟨by decide, by decide⟩ (cX12_isOf_ok ex2) rfl (Nat.le_of_ble_eq_true rfl) dX12_strongestOf_17 rfl ?_
      have hf := zIf_s hf
      refine zr_if_eq (pc := 20) (tgt := 53) h dX12_strongestOf_20 rfl (fun b12 => ?_) (fun b12 => ?_)
      · have hf := hf.1 b12
        refine zr_iincx (pc := 53) h dX12_strongestOf_53 rfl (by decide) rfl (c := (1 : Int32)) (by decide) (fun x3 ex3 => ?_)
        have hf := zLt_s ex3 hf
        refine zr_goto (pc := 56) (tgt := 5) h dX12_strongestOf_56 rfl ?_
        exact zr_weak h [true, true, true, true, true] (ih _ _ _ _ hf)
      · have hf := hf.2 b12
        refine zr_iload_n (pc := 23) h dX12_strongestOf_23 rfl rfl ?_
        refine zr_iconst (pc := 24) (v := (-1 : Int32)) h dX12_strongestOf_24 (by decide) ?_
        have hf := zIf_s hf
        refine zr_icmp_eq (pc := 25) (tgt := 50) h dX12_strongestOf_25 rfl (fun b11 => ?_) (fun b11 => ?_)
        · have hf := hf.1 b11
          refine zr_iload (pc := 50) h dX12_strongestOf_50 rfl ?_
          refine zr_istore_n (pc := 52) h dX12_strongestOf_52 rfl (by decide) rfl ?_
          refine zr_iincx (pc := 53) h dX12_strongestOf_53 rfl (by decide) rfl (c := (1 : Int32)) (by decide) (fun x4 ex4 => ?_)
          have hf := zLt_s ex4 hf
          refine zr_goto (pc := 56) (tgt := 5) h dX12_strongestOf_56 rfl ?_
          exact zr_weak h [true, true, true, true, true] (ih _ _ _ _ hf)
        · have hf := hf.2 b11
          refine zr_aload_n (pc := 28) h dX12_strongestOf_28 rfl rfl ?_
          refine zr_iload_n (pc := 29) h dX12_strongestOf_29 rfl rfl ?_
          refine zr_iload (pc := 30) h dX12_strongestOf_30 rfl ?_
          obtain ⟨x5, ex5, hf⟩ := zBd_s hf
          refine zm_X12_268 (pc := 32) h gkc_267 ⟨by decide, by decide⟩ (cX12_wordOf_ok ex5) rfl (Nat.le_of_ble_eq_true rfl) dX12_strongestOf_32 rfl ?_
          refine zr_iload (pc := 35) h dX12_strongestOf_35 rfl ?_
          refine zr_aload_n (pc := 37) h dX12_strongestOf_37 rfl rfl ?_
          refine zr_iload_n (pc := 38) h dX12_strongestOf_38 rfl rfl ?_
          refine zr_iload_n (pc := 39) h dX12_strongestOf_39 rfl rfl ?_
          obtain ⟨x6, ex6, hf⟩ := zBd_s hf
          refine zm_X12_268 (pc := 40) h gkc_267 ⟨by decide, by decide⟩ (cX12_wordOf_ok ex6) rfl (Nat.le_of_ble_eq_true rfl) dX12_strongestOf_40 rfl ?_
          refine zr_iload_n (pc := 43) h dX12_strongestOf_43 rfl rfl ?_
          obtain ⟨x7, ex7, hf⟩ := zBd_s hf
          refine zm_X12_325 (pc := 44) h ⟨by decide, by decide⟩ (cX12_isStronger_ok ex7) rfl (Nat.le_of_ble_eq_true rfl) dX12_strongestOf_44 rfl ?_
          have hf := zIf_s hf
          refine zr_if_eq (pc := 47) (tgt := 53) h dX12_strongestOf_47 rfl (fun b10 => ?_) (fun b10 => ?_)
          · have hf := hf.1 b10
            refine zr_iincx (pc := 53) h dX12_strongestOf_53 rfl (by decide) rfl (c := (1 : Int32)) (by decide) (fun x8 ex8 => ?_)
            have hf := zLt_s ex8 hf
            refine zr_goto (pc := 56) (tgt := 5) h dX12_strongestOf_56 rfl ?_
            exact zr_weak h [true, true, true, true, true] (ih _ _ _ _ hf)
          · have hf := hf.2 b10
            refine zr_iload (pc := 50) h dX12_strongestOf_50 rfl ?_
            refine zr_istore_n (pc := 52) h dX12_strongestOf_52 rfl (by decide) rfl ?_
            refine zr_iincx (pc := 53) h dX12_strongestOf_53 rfl (by decide) rfl (c := (1 : Int32)) (by decide) (fun x9 ex9 => ?_)
            have hf := zLt_s ex9 hf
            refine zr_goto (pc := 56) (tgt := 5) h dX12_strongestOf_56 rfl ?_
            exact zr_weak h [true, true, true, true, true] (ih _ _ _ _ hf)

set_option maxRecDepth 100000 in
set_option maxHeartbeats 4000000 in
theorem cX12_strongestOf_ok {l : Launch} {g : gG} {a1 : Int32} {a2 : Int32} {μ : gM} {r : Int32} (hf : fX12_strongestOf a1 a2 μ = some r) : gMet l g yX12_strongestOf cX12_strongestOf 5 (some .int) 2 45 [.ref (g.1 + 267), .int a1, .int a2] μ (some (.int r)) μ := by
  refine gMet_of (gIni [.ref (g.1 + 267), .int a1, .int a2] ++ List.replicate 2 none) (by decide) (gIni_ok _ _) (Nat.le_of_ble_eq_true rfl) (fun K h => ?_)
  show K 0 [some (.ref (g.1 + 267)), some (.int a1), some (.int a2), none, none] [] μ
  unfold fX12_strongestOf at hf
  refine zr_iconst (pc := 0) (v := (-1 : Int32)) h dX12_strongestOf_0 (by decide) ?_
  refine zr_istore_n (pc := 1) h dX12_strongestOf_1 rfl (by decide) rfl ?_
  refine zr_iconst (pc := 2) (v := (0 : Int32)) h dX12_strongestOf_2 (by decide) ?_
  refine zr_istore (pc := 3) h dX12_strongestOf_3 (by decide) rfl ?_
  exact zr_weak h [true, true, true, true, true] (fX12_strongestOf_l5_ok h 100000 _ _ _ _ hf)

set_option maxRecDepth 100000 in
set_option maxHeartbeats 4000000 in
theorem cX12_partOf_ok {l : Launch} {g : gG} {a1 : Int32} {μ : gM} {r : Int32} (hf : fX12_partOf a1 μ = some r) : gMet l g yX12_partOf cX12_partOf 3 (some .int) 1 21 [.ref (g.1 + 267), .int a1] μ (some (.int r)) μ := by
  refine gMet_of (gIni [.ref (g.1 + 267), .int a1] ++ List.replicate 1 none) (by decide) (gIni_ok _ _) (Nat.le_of_ble_eq_true rfl) (fun K h => ?_)
  show K 0 [some (.ref (g.1 + 267)), some (.int a1), none] [] μ
  unfold fX12_partOf at hf
  refine zr_iconst (pc := 0) (v := (1 : Int32)) h dX12_partOf_0 (by decide) ?_
  refine zr_aload_n (pc := 1) h dX12_partOf_1 rfl rfl ?_
  obtain ⟨x1, ex1, hf⟩ := zBd_s hf
  refine zm_X12_256 (pc := 2) h gkc_267 ⟨by decide, by decide⟩ (cX12_gates_ok ex1) rfl (Nat.le_of_ble_eq_true rfl) dX12_partOf_2 rfl ?_
  refine zr_ishl (pc := 5) h dX12_partOf_5 ?_
  refine zr_iconst (pc := 6) (v := (1 : Int32)) h dX12_partOf_6 (by decide) ?_
  refine zr_isub (pc := 7) h dX12_partOf_7 ?_
  refine zr_topi h (fun x2 ex2 => ?_)
  have hf := zLt_s ex2 hf
  refine zr_istore_n (pc := 8) h dX12_partOf_8 rfl (by decide) rfl ?_
  refine zr_aload_n (pc := 9) h dX12_partOf_9 rfl rfl ?_
  refine zf_X12_27 (pc := 10) h gkc_267 dX12_partOf_10 ?_
  refine zr_iconst (pc := 13) (v := (3 : Int32)) h dX12_partOf_13 (by decide) ?_
  refine zr_iald (pc := 14) (q := 3) h gkc_272 rfl (by decide) dX12_partOf_14 ?_
  refine zr_iload_n (pc := 15) h dX12_partOf_15 rfl rfl ?_
  obtain ⟨x3, ex3, hf⟩ := zBd_s hf
  refine zm_X12_186 (pc := 16) h ⟨by decide, by decide⟩ (cX12_isOf_ok ex3) rfl (Nat.le_of_ble_eq_true rfl) dX12_partOf_16 rfl ?_
  have hf := zIf_s hf
  refine zr_if_eq (pc := 19) (tgt := 31) h dX12_partOf_19 rfl (fun b4 => ?_) (fun b4 => ?_)
  · have hf := hf.1 b4
    refine zr_iload_n (pc := 31) h dX12_partOf_31 rfl rfl ?_
    refine zr_aload_n (pc := 32) h dX12_partOf_32 rfl rfl ?_
    refine zf_X12_27 (pc := 33) h gkc_267 dX12_partOf_33 ?_
    refine zr_iconst (pc := 36) (v := (3 : Int32)) h dX12_partOf_36 (by decide) ?_
    refine zr_iald (pc := 37) (q := 3) h gkc_272 rfl (by decide) dX12_partOf_37 ?_
    refine zr_iconst (pc := 38) (v := (-1 : Int32)) h dX12_partOf_38 (by decide) ?_
    refine zr_ixor (pc := 39) h dX12_partOf_39 ?_
    refine zr_iand (pc := 40) h dX12_partOf_40 ?_
    exact zr_iret (pc := 41) h dX12_partOf_41 (zRi hf) rfl
  · have hf := hf.2 b4
    refine zr_aload_n (pc := 22) h dX12_partOf_22 rfl rfl ?_
    refine zf_X12_27 (pc := 23) h gkc_267 dX12_partOf_23 ?_
    refine zr_iconst (pc := 26) (v := (3 : Int32)) h dX12_partOf_26 (by decide) ?_
    refine zr_iald (pc := 27) (q := 3) h gkc_272 rfl (by decide) dX12_partOf_27 ?_
    refine zr_goto (pc := 28) (tgt := 41) h dX12_partOf_28 rfl ?_
    exact zr_iret (pc := 41) h dX12_partOf_41 (zRi hf) rfl

set_option maxRecDepth 100000 in
set_option maxHeartbeats 4000000 in
theorem cX12_holderOf_ok {l : Launch} {g : gG} {a1 : Int32} {a2 : Int32} {μ : gM} {r : Int32} (hf : fX12_holderOf a1 a2 μ = some r) : gMet l g yX12_holderOf cX12_holderOf 3 (some .int) 3 69 [.ref (g.1 + 267), .int a1, .int a2] μ (some (.int r)) μ := by
  refine gMet_of (gIni [.ref (g.1 + 267), .int a1, .int a2] ++ List.replicate 0 none) (by decide) (gIni_ok _ _) (Nat.le_of_ble_eq_true rfl) (fun K h => ?_)
  show K 0 [some (.ref (g.1 + 267)), some (.int a1), some (.int a2)] [] μ
  unfold fX12_holderOf at hf
  refine zr_aload_n (pc := 0) h dX12_holderOf_0 rfl rfl ?_
  refine zr_iload_n (pc := 1) h dX12_holderOf_1 rfl rfl ?_
  refine zr_aload_n (pc := 2) h dX12_holderOf_2 rfl rfl ?_
  refine zr_iload_n (pc := 3) h dX12_holderOf_3 rfl rfl ?_
  refine zr_iconst (pc := 4) (v := (2 : Int32)) h dX12_holderOf_4 (by decide) ?_
  obtain ⟨x1, ex1, hf⟩ := zBd_s hf
  refine zm_X12_338 (pc := 5) h gkc_267 ⟨by decide, by decide⟩ (cX12_bitsOf_ok ex1) rfl (Nat.le_of_ble_eq_true rfl) dX12_holderOf_5 rfl ?_
  refine zr_aload_n (pc := 8) h dX12_holderOf_8 rfl rfl ?_
  refine zr_iload_n (pc := 9) h dX12_holderOf_9 rfl rfl ?_
  obtain ⟨x2, ex2, hf⟩ := zBd_s hf
  refine zm_X12_376 (pc := 10) h gkc_267 ⟨by decide, by decide⟩ (cX12_partOf_ok ex2) rfl (Nat.le_of_ble_eq_true rfl) dX12_holderOf_10 rfl ?_
  refine zr_iand (pc := 13) h dX12_holderOf_13 ?_
  obtain ⟨x3, ex3, hf⟩ := zBd_s hf
  refine zm_X12_379 (pc := 14) h gkc_267 ⟨by decide, by decide⟩ (cX12_strongestOf_ok ex3) rfl (Nat.le_of_ble_eq_true rfl) dX12_holderOf_14 rfl ?_
  exact zr_iret (pc := 17) h dX12_holderOf_17 (zRi hf) rfl

set_option maxRecDepth 100000 in
set_option maxHeartbeats 4000000 in
theorem cX12_holder_ok {l : Launch} {g : gG} {a1 : Int32} {a2 : Int32} {μ : gM} {r : Int32} {ν : gM} (hf : fX12_holder a1 a2 μ = some (r, ν)) : gMet l g yX12_holder cX12_holder 3 (some .int) 4 91 [.ref (g.1 + 267), .int a1, .int a2] μ (some (.int r)) ν := by
  refine gMet_of (gIni [.ref (g.1 + 267), .int a1, .int a2] ++ List.replicate 0 none) (by decide) (gIni_ok _ _) (Nat.le_of_ble_eq_true rfl) (fun K h => ?_)
  show K 0 [some (.ref (g.1 + 267)), some (.int a1), some (.int a2)] [] μ
  unfold fX12_holder at hf
  refine zr_aload_n (pc := 0) h dX12_holder_0 rfl rfl ?_
  refine zr_iconst (pc := 1) (v := (0 : Int32)) h dX12_holder_1 (by decide) ?_
  refine zp_X12_46 (pc := 2) h gkc_267 dX12_holder_2 ?_
  refine zr_mu h (fun μ1 eμ1 => ?_)
  have hf := zLt_s eμ1 hf
  refine zr_aload_n (pc := 5) h dX12_holder_5 rfl rfl ?_
  refine zr_iload_n (pc := 6) h dX12_holder_6 rfl rfl ?_
  obtain ⟨x2, ex2, hf⟩ := zBd_s hf
  refine zm_X12_259 (pc := 7) h gkc_267 ⟨by decide, by decide⟩ (cX12_isGroup_ok ex2) rfl (Nat.le_of_ble_eq_true rfl) dX12_holder_7 rfl ?_
  have hf := zIf_s hf
  refine zr_if_eq (pc := 10) (tgt := 30) h dX12_holder_10 rfl (fun b6 => ?_) (fun b6 => ?_)
  · have hf := hf.1 b6
    refine zr_iconst (pc := 30) (v := (-1 : Int32)) h dX12_holder_30 (by decide) ?_
    exact zr_iret (pc := 31) h dX12_holder_31 (zRp hf).1 (zRp hf).2
  · have hf := hf.2 b6
    refine zr_aload_n (pc := 13) h dX12_holder_13 rfl rfl ?_
    refine zr_iload_n (pc := 14) h dX12_holder_14 rfl rfl ?_
    obtain ⟨x3, ex3, hf⟩ := zBd_s hf
    refine zm_X12_262 (pc := 15) h gkc_267 ⟨by decide, by decide⟩ (cX12_isGate_ok ex3) rfl (Nat.le_of_ble_eq_true rfl) dX12_holder_15 rfl ?_
    have hf := zIf_s hf
    refine zr_if_eq (pc := 18) (tgt := 30) h dX12_holder_18 rfl (fun b5 => ?_) (fun b5 => ?_)
    · have hf := hf.1 b5
      refine zr_iconst (pc := 30) (v := (-1 : Int32)) h dX12_holder_30 (by decide) ?_
      exact zr_iret (pc := 31) h dX12_holder_31 (zRp hf).1 (zRp hf).2
    · have hf := hf.2 b5
      refine zr_aload_n (pc := 21) h dX12_holder_21 rfl rfl ?_
      refine zr_iload_n (pc := 22) h dX12_holder_22 rfl rfl ?_
      refine zr_iload_n (pc := 23) h dX12_holder_23 rfl rfl ?_
      obtain ⟨x4, ex4, hf⟩ := zBd_s hf
      refine zm_X12_382 (pc := 24) h gkc_267 ⟨by decide, by decide⟩ (cX12_holderOf_ok ex4) rfl (Nat.le_of_ble_eq_true rfl) dX12_holder_24 rfl ?_
      refine zr_goto (pc := 27) (tgt := 31) h dX12_holder_27 rfl ?_
      exact zr_iret (pc := 31) h dX12_holder_31 (zRp hf).1 (zRp hf).2

set_option maxRecDepth 100000 in
set_option maxHeartbeats 4000000 in
theorem fX12_doubles_l18_ok {l : Launch} {g : gG} {r : Int32} {ν : gM} {K : gKt} (h : gR l g cX12_doubles RX12 3 (some .int) (gRm 3 67) (some (.int r)) ν K) : ∀ (n : Nat) (y1 : Int32) (y2 : Int32) (μ : gM), fX12_doubles_l18 n y1 y2 μ = some (r, ν) → K 18 [some (.ref (g.1 + 267)), some (.int y1), some (.int y2)] [] μ := by
  intro n
  induction n with
  | zero =>
    intro y1 y2 μ hf
    cases (show (none : Option (Int32 × gM)) = some _ from hf)
  | succ n ih =>
    intro y1 y2 μ hf
    unfold fX12_doubles_l18 at hf
    refine zr_iload_n (pc := 18) h dX12_doubles_18 rfl rfl ?_
    refine zr_aload_n (pc := 19) h dX12_doubles_19 rfl rfl ?_
    obtain ⟨x2, ex2, hf⟩ := zBd_s hf
    refine zm_X12_253 (pc := 20) h gkc_267 ⟨by decide, by decide⟩ (cX12_groups_ok ex2) rfl (Nat.le_of_ble_eq_true rfl) dX12_doubles_20 rfl ?_
    have hf := zIf_s hf
    refine zr_icmp_ge (pc := 23) (tgt := 45) h dX12_doubles_23 rfl (fun b7 => ?_) (fun b7 => ?_)
    · have hf := hf.1 b7
      refine zr_iload_n (pc := 45) h dX12_doubles_45 rfl rfl ?_
      exact zr_iret (pc := 46) h dX12_doubles_46 (zRp hf).1 (zRp hf).2
    · have hf := hf.2 b7
      refine zr_iload_n (pc := 26) h dX12_doubles_26 rfl rfl ?_
      refine zr_aload_n (pc := 27) h dX12_doubles_27 rfl rfl ?_
      refine zr_iload_n (pc := 28) h dX12_doubles_28 rfl rfl ?_
      obtain ⟨x3, ex3, hf⟩ := zBd_s hf
      refine zm_X12_353 (pc := 29) h gkc_267 ⟨by decide, by decide⟩ (cX12_isDouble_ok ex3) rfl (Nat.le_of_ble_eq_true rfl) dX12_doubles_29 rfl ?_
      obtain ⟨x4, ex4, hf⟩ := zBd_s hf
      refine zm_X12_178 (pc := 32) h ⟨by decide, by decide⟩ (cX12_flag_ok ex4) rfl (Nat.le_of_ble_eq_true rfl) dX12_doubles_32 rfl ?_
      refine zr_iload_n (pc := 35) h dX12_doubles_35 rfl rfl ?_
      refine zr_ishl (pc := 36) h dX12_doubles_36 ?_
      refine zr_ior (pc := 37) h dX12_doubles_37 ?_
      refine zr_topi h (fun x5 ex5 => ?_)
      have hf := zLt_s ex5 hf
      refine zr_istore_n (pc := 38) h dX12_doubles_38 rfl (by decide) rfl ?_
      refine zr_iincx (pc := 39) h dX12_doubles_39 rfl (by decide) rfl (c := (1 : Int32)) (by decide) (fun x6 ex6 => ?_)
      have hf := zLt_s ex6 hf
      refine zr_goto (pc := 42) (tgt := 18) h dX12_doubles_42 rfl ?_
      exact zr_weak h [true, true, true] (ih _ _ _ hf)

set_option maxRecDepth 100000 in
set_option maxHeartbeats 4000000 in
theorem cX12_doubles_ok {l : Launch} {g : gG} {μ : gM} {r : Int32} {ν : gM} (hf : fX12_doubles μ = some (r, ν)) : gMet l g yX12_doubles cX12_doubles 3 (some .int) 3 67 [.ref (g.1 + 267)] μ (some (.int r)) ν := by
  refine gMet_of (gIni [.ref (g.1 + 267)] ++ List.replicate 2 none) (by decide) (gIni_ok _ _) (Nat.le_of_ble_eq_true rfl) (fun K h => ?_)
  show K 0 [some (.ref (g.1 + 267)), none, none] [] μ
  unfold fX12_doubles at hf
  refine zr_aload_n (pc := 0) h dX12_doubles_0 rfl rfl ?_
  refine zr_iconst (pc := 1) (v := (0 : Int32)) h dX12_doubles_1 (by decide) ?_
  refine zp_X12_46 (pc := 2) h gkc_267 dX12_doubles_2 ?_
  refine zr_mu h (fun μ1 eμ1 => ?_)
  have hf := zLt_s eμ1 hf
  refine zr_aload_n (pc := 5) h dX12_doubles_5 rfl rfl ?_
  refine zf_X12_224 (pc := 6) h gkc_267 dX12_doubles_6 ?_
  have hf := zIf_s hf
  refine zr_if_ne (pc := 9) (tgt := 14) h dX12_doubles_9 rfl (fun b8 => ?_) (fun b8 => ?_)
  · have hf := hf.2 b8
    refine zr_iconst (pc := 14) (v := (0 : Int32)) h dX12_doubles_14 (by decide) ?_
    refine zr_istore_n (pc := 15) h dX12_doubles_15 rfl (by decide) rfl ?_
    refine zr_iconst (pc := 16) (v := (0 : Int32)) h dX12_doubles_16 (by decide) ?_
    refine zr_istore_n (pc := 17) h dX12_doubles_17 rfl (by decide) rfl ?_
    exact zr_weak h [true, true, true] (fX12_doubles_l18_ok h 100000 _ _ _ hf)
  · have hf := hf.1 b8
    refine zr_iconst (pc := 12) (v := (-1 : Int32)) h dX12_doubles_12 (by decide) ?_
    exact zr_iret (pc := 13) h dX12_doubles_13 (zRp hf).1 (zRp hf).2

set_option maxRecDepth 100000 in
set_option maxHeartbeats 4000000 in
theorem fX12_orphans_l18_ok {l : Launch} {g : gG} {r : Int32} {ν : gM} {K : gKt} (h : gR l g cX12_orphans RX12 3 (some .int) (gRm 3 66) (some (.int r)) ν K) : ∀ (n : Nat) (y1 : Int32) (y2 : Int32) (μ : gM), fX12_orphans_l18 n y1 y2 μ = some (r, ν) → K 18 [some (.ref (g.1 + 267)), some (.int y1), some (.int y2)] [] μ := by
  intro n
  induction n with
  | zero =>
    intro y1 y2 μ hf
    cases (show (none : Option (Int32 × gM)) = some _ from hf)
  | succ n ih =>
    intro y1 y2 μ hf
    unfold fX12_orphans_l18 at hf
    refine zr_iload_n (pc := 18) h dX12_orphans_18 rfl rfl ?_
    refine zr_aload_n (pc := 19) h dX12_orphans_19 rfl rfl ?_
    obtain ⟨x2, ex2, hf⟩ := zBd_s hf
    refine zm_X12_253 (pc := 20) h gkc_267 ⟨by decide, by decide⟩ (cX12_groups_ok ex2) rfl (Nat.le_of_ble_eq_true rfl) dX12_orphans_20 rfl ?_
    have hf := zIf_s hf
    refine zr_icmp_ge (pc := 23) (tgt := 45) h dX12_orphans_23 rfl (fun b7 => ?_) (fun b7 => ?_)
    · have hf := hf.1 b7
      refine zr_iload_n (pc := 45) h dX12_orphans_45 rfl rfl ?_
      exact zr_iret (pc := 46) h dX12_orphans_46 (zRp hf).1 (zRp hf).2
    · have hf := hf.2 b7
      refine zr_iload_n (pc := 26) h dX12_orphans_26 rfl rfl ?_
      refine zr_aload_n (pc := 27) h dX12_orphans_27 rfl rfl ?_
      refine zr_iload_n (pc := 28) h dX12_orphans_28 rfl rfl ?_
      obtain ⟨x3, ex3, hf⟩ := zBd_s hf
      refine zm_X12_350 (pc := 29) h gkc_267 ⟨by decide, by decide⟩ (cX12_isOrphan_ok ex3) rfl (Nat.le_of_ble_eq_true rfl) dX12_orphans_29 rfl ?_
      obtain ⟨x4, ex4, hf⟩ := zBd_s hf
      refine zm_X12_178 (pc := 32) h ⟨by decide, by decide⟩ (cX12_flag_ok ex4) rfl (Nat.le_of_ble_eq_true rfl) dX12_orphans_32 rfl ?_
      refine zr_iload_n (pc := 35) h dX12_orphans_35 rfl rfl ?_
      refine zr_ishl (pc := 36) h dX12_orphans_36 ?_
      refine zr_ior (pc := 37) h dX12_orphans_37 ?_
      refine zr_topi h (fun x5 ex5 => ?_)
      have hf := zLt_s ex5 hf
      refine zr_istore_n (pc := 38) h dX12_orphans_38 rfl (by decide) rfl ?_
      refine zr_iincx (pc := 39) h dX12_orphans_39 rfl (by decide) rfl (c := (1 : Int32)) (by decide) (fun x6 ex6 => ?_)
      have hf := zLt_s ex6 hf
      refine zr_goto (pc := 42) (tgt := 18) h dX12_orphans_42 rfl ?_
      exact zr_weak h [true, true, true] (ih _ _ _ hf)

set_option maxRecDepth 100000 in
set_option maxHeartbeats 4000000 in
theorem cX12_orphans_ok {l : Launch} {g : gG} {μ : gM} {r : Int32} {ν : gM} (hf : fX12_orphans μ = some (r, ν)) : gMet l g yX12_orphans cX12_orphans 3 (some .int) 3 66 [.ref (g.1 + 267)] μ (some (.int r)) ν := by
  refine gMet_of (gIni [.ref (g.1 + 267)] ++ List.replicate 2 none) (by decide) (gIni_ok _ _) (Nat.le_of_ble_eq_true rfl) (fun K h => ?_)
  show K 0 [some (.ref (g.1 + 267)), none, none] [] μ
  unfold fX12_orphans at hf
  refine zr_aload_n (pc := 0) h dX12_orphans_0 rfl rfl ?_
  refine zr_iconst (pc := 1) (v := (0 : Int32)) h dX12_orphans_1 (by decide) ?_
  refine zp_X12_46 (pc := 2) h gkc_267 dX12_orphans_2 ?_
  refine zr_mu h (fun μ1 eμ1 => ?_)
  have hf := zLt_s eμ1 hf
  refine zr_aload_n (pc := 5) h dX12_orphans_5 rfl rfl ?_
  refine zf_X12_224 (pc := 6) h gkc_267 dX12_orphans_6 ?_
  have hf := zIf_s hf
  refine zr_if_ne (pc := 9) (tgt := 14) h dX12_orphans_9 rfl (fun b8 => ?_) (fun b8 => ?_)
  · have hf := hf.2 b8
    refine zr_iconst (pc := 14) (v := (0 : Int32)) h dX12_orphans_14 (by decide) ?_
    refine zr_istore_n (pc := 15) h dX12_orphans_15 rfl (by decide) rfl ?_
    refine zr_iconst (pc := 16) (v := (0 : Int32)) h dX12_orphans_16 (by decide) ?_
    refine zr_istore_n (pc := 17) h dX12_orphans_17 rfl (by decide) rfl ?_
    exact zr_weak h [true, true, true] (fX12_orphans_l18_ok h 100000 _ _ _ hf)
  · have hf := hf.1 b8
    refine zr_iconst (pc := 12) (v := (-1 : Int32)) h dX12_orphans_12 (by decide) ?_
    exact zr_iret (pc := 13) h dX12_orphans_13 (zRp hf).1 (zRp hf).2

set_option maxRecDepth 100000 in
set_option maxHeartbeats 4000000 in
theorem fX12_holds_l19_ok {l : Launch} {g : gG} {r : Int32} {ν : gM} {K : gKt} (h : gR l g cX12_holds RX12 4 (some .int) (gRm 2 46) (some (.int r)) ν K) : ∀ (n : Nat) (y1 : Int32) (y2 : Int32) (y3 : Int32) (μ : gM), fX12_holds_l19 n y1 y2 y3 μ = some (r, ν) → K 19 [some (.ref (g.1 + 267)), some (.int y1), some (.int y2), some (.int y3)] [] μ := by
  intro n
  induction n with
  | zero =>
    intro y1 y2 y3 μ hf
    cases (show (none : Option (Int32 × gM)) = some _ from hf)
  | succ n ih =>
    intro y1 y2 y3 μ hf
    unfold fX12_holds_l19 at hf
    refine zr_iload_n (pc := 19) h dX12_holds_19 rfl rfl ?_
    refine zr_aload_n (pc := 20) h dX12_holds_20 rfl rfl ?_
    obtain ⟨x3, ex3, hf⟩ := zBd_s hf
    refine zm_X12_253 (pc := 21) h gkc_267 ⟨by decide, by decide⟩ (cX12_groups_ok ex3) rfl (Nat.le_of_ble_eq_true rfl) dX12_holds_21 rfl ?_
    have hf := zIf_s hf
    refine zr_icmp_ge (pc := 24) (tgt := 47) h dX12_holds_24 rfl (fun b8 => ?_) (fun b8 => ?_)
    · have hf := hf.1 b8
      refine zr_iload_n (pc := 47) h dX12_holds_47 rfl rfl ?_
      exact zr_iret (pc := 48) h dX12_holds_48 (zRp hf).1 (zRp hf).2
    · have hf := hf.2 b8
      refine zr_iload_n (pc := 27) h dX12_holds_27 rfl rfl ?_
      refine zr_aload_n (pc := 28) h dX12_holds_28 rfl rfl ?_
      refine zr_iload_n (pc := 29) h dX12_holds_29 rfl rfl ?_
      refine zr_iload_n (pc := 30) h dX12_holds_30 rfl rfl ?_
      obtain ⟨x4, ex4, hf⟩ := zBd_s hf
      refine zm_X12_299 (pc := 31) h gkc_267 ⟨by decide, by decide⟩ (cX12_doesHold_ok ex4) rfl (Nat.le_of_ble_eq_true rfl) dX12_holds_31 rfl ?_
      obtain ⟨x5, ex5, hf⟩ := zBd_s hf
      refine zm_X12_178 (pc := 34) h ⟨by decide, by decide⟩ (cX12_flag_ok ex5) rfl (Nat.le_of_ble_eq_true rfl) dX12_holds_34 rfl ?_
      refine zr_iload_n (pc := 37) h dX12_holds_37 rfl rfl ?_
      refine zr_ishl (pc := 38) h dX12_holds_38 ?_
      refine zr_ior (pc := 39) h dX12_holds_39 ?_
      refine zr_topi h (fun x6 ex6 => ?_)
      have hf := zLt_s ex6 hf
      refine zr_istore_n (pc := 40) h dX12_holds_40 rfl (by decide) rfl ?_
      refine zr_iincx (pc := 41) h dX12_holds_41 rfl (by decide) rfl (c := (1 : Int32)) (by decide) (fun x7 ex7 => ?_)
      have hf := zLt_s ex7 hf
      refine zr_goto (pc := 44) (tgt := 19) h dX12_holds_44 rfl ?_
      exact zr_weak h [true, true, true, true] (ih _ _ _ _ hf)

set_option maxRecDepth 100000 in
set_option maxHeartbeats 4000000 in
theorem cX12_holds_ok {l : Launch} {g : gG} {a1 : Int32} {μ : gM} {r : Int32} {ν : gM} (hf : fX12_holds a1 μ = some (r, ν)) : gMet l g yX12_holds cX12_holds 4 (some .int) 2 46 [.ref (g.1 + 267), .int a1] μ (some (.int r)) ν := by
  refine gMet_of (gIni [.ref (g.1 + 267), .int a1] ++ List.replicate 2 none) (by decide) (gIni_ok _ _) (Nat.le_of_ble_eq_true rfl) (fun K h => ?_)
  show K 0 [some (.ref (g.1 + 267)), some (.int a1), none, none] [] μ
  unfold fX12_holds at hf
  refine zr_aload_n (pc := 0) h dX12_holds_0 rfl rfl ?_
  refine zr_iconst (pc := 1) (v := (0 : Int32)) h dX12_holds_1 (by decide) ?_
  refine zp_X12_46 (pc := 2) h gkc_267 dX12_holds_2 ?_
  refine zr_mu h (fun μ1 eμ1 => ?_)
  have hf := zLt_s eμ1 hf
  refine zr_aload_n (pc := 5) h dX12_holds_5 rfl rfl ?_
  refine zr_iload_n (pc := 6) h dX12_holds_6 rfl rfl ?_
  obtain ⟨x2, ex2, hf⟩ := zBd_s hf
  refine zm_X12_262 (pc := 7) h gkc_267 ⟨by decide, by decide⟩ (cX12_isGate_ok ex2) rfl (Nat.le_of_ble_eq_true rfl) dX12_holds_7 rfl ?_
  have hf := zIf_s hf
  refine zr_if_ne (pc := 10) (tgt := 15) h dX12_holds_10 rfl (fun b9 => ?_) (fun b9 => ?_)
  · have hf := hf.2 b9
    refine zr_iconst (pc := 15) (v := (0 : Int32)) h dX12_holds_15 (by decide) ?_
    refine zr_istore_n (pc := 16) h dX12_holds_16 rfl (by decide) rfl ?_
    refine zr_iconst (pc := 17) (v := (0 : Int32)) h dX12_holds_17 (by decide) ?_
    refine zr_istore_n (pc := 18) h dX12_holds_18 rfl (by decide) rfl ?_
    exact zr_weak h [true, true, true, true] (fX12_holds_l19_ok h 100000 _ _ _ _ hf)
  · have hf := hf.1 b9
    refine zr_iconst (pc := 13) (v := (-1 : Int32)) h dX12_holds_13 (by decide) ?_
    exact zr_iret (pc := 14) h dX12_holds_14 (zRp hf).1 (zRp hf).2

set_option maxRecDepth 100000 in
set_option maxHeartbeats 4000000 in
theorem fX12_laysSlots_l60_ok {l : Launch} {g : gG} {k40 : Int32 → Int32 → Int32 → gM → Option gM} {ν : gM} {K : gKt} (h : gR l g cX12_laysSlots RX12 7 none (gRm 2 45) none ν K) (hk40 : ∀ (y1 : Int32) (y3 : Int32) (y4 : Int32) (ν1 : gM), k40 y1 y3 y4 ν1 = some ν → K 40 [some (.ref (g.1 + 267)), some (.int y1), none, some (.int y3), some (.int y4), none, none] [] ν1) : ∀ (n : Nat) (y1 : Int32) (y3 : Int32) (y4 : Int32) (y5 : Int32) (y6 : Int32) (μ : gM), fX12_laysSlots_l60 k40 n y1 y3 y4 y5 y6 μ = some ν → K 60 [some (.ref (g.1 + 267)), some (.int y1), none, some (.int y3), some (.int y4), some (.int y5), some (.int y6)] [] μ := by
  intro n
  induction n with
  | zero =>
    intro y1 y3 y4 y5 y6 μ hf
    cases (show (none : Option gM) = some _ from hf)
  | succ n ih =>
    intro y1 y3 y4 y5 y6 μ hf
    unfold fX12_laysSlots_l60 at hf
    refine zr_iload (pc := 60) h dX12_laysSlots_60 rfl ?_
    refine zr_aload_n (pc := 62) h dX12_laysSlots_62 rfl rfl ?_
    obtain ⟨x5, ex5, hf⟩ := zBd_s hf
    refine zm_X12_256 (pc := 63) h gkc_267 ⟨by decide, by decide⟩ (cX12_gates_ok ex5) rfl (Nat.le_of_ble_eq_true rfl) dX12_laysSlots_63 rfl ?_
    have hf := zIf_s hf
    refine zr_icmp_ge (pc := 66) (tgt := 165) h dX12_laysSlots_66 rfl (fun b32 => ?_) (fun b32 => ?_)
    · have hf := hf.1 b32
      refine zr_aload_n (pc := 165) h dX12_laysSlots_165 rfl rfl ?_
      refine zf_X12_40 (pc := 166) h gkc_267 dX12_laysSlots_166 ?_
      refine zr_iload (pc := 169) h dX12_laysSlots_169 rfl ?_
      refine zr_iload (pc := 171) h dX12_laysSlots_171 rfl ?_
      obtain ⟨q6, hf⟩ := zCk_s hf
      refine zr_iast (pc := 173) h gkc_276 q6 rfl dX12_laysSlots_173 ?_
      refine zr_mu h (fun μ7 eμ7 => ?_)
      have hf := zLt_s eμ7 hf
      refine zr_iload (pc := 174) h dX12_laysSlots_174 rfl ?_
      refine zr_iconst (pc := 176) (v := (-1 : Int32)) h dX12_laysSlots_176 (by decide) ?_
      have hf := zIf_s hf
      refine zr_icmp_eq (pc := 177) (tgt := 191) h dX12_laysSlots_177 rfl (fun b13 => ?_) (fun b13 => ?_)
      · have hf := hf.1 b13
        refine zr_iincx (pc := 191) h dX12_laysSlots_191 rfl (by decide) rfl (c := (1 : Int32)) (by decide) (fun x8 ex8 => ?_)
        have hf := zLt_s ex8 hf
        refine zr_goto (pc := 194) (tgt := 40) h dX12_laysSlots_194 rfl ?_
        exact zr_weak h [true, true, false, true, true, false, false] (hk40 _ _ _ _ hf)
      · have hf := hf.2 b13
        refine zr_aload_n (pc := 180) h dX12_laysSlots_180 rfl rfl ?_
        refine zf_X12_43 (pc := 181) h gkc_267 dX12_laysSlots_181 ?_
        refine zr_iload (pc := 184) h dX12_laysSlots_184 rfl ?_
        refine zr_dup2 (pc := 186) h dX12_laysSlots_186 rfl rfl ?_
        obtain ⟨q9, hf⟩ := zCk_s hf
        refine zr_iald (pc := 187) h gkc_277 q9 rfl dX12_laysSlots_187 ?_
        refine zr_iconst (pc := 188) (v := (1 : Int32)) h dX12_laysSlots_188 (by decide) ?_
        refine zr_iadd (pc := 189) h dX12_laysSlots_189 ?_
        obtain ⟨q10, hf⟩ := zCk_s hf
        refine zr_iast (pc := 190) h gkc_277 q10 rfl dX12_laysSlots_190 ?_
        refine zr_mu h (fun μ11 eμ11 => ?_)
        have hf := zLt_s eμ11 hf
        refine zr_iincx (pc := 191) h dX12_laysSlots_191 rfl (by decide) rfl (c := (1 : Int32)) (by decide) (fun x12 ex12 => ?_)
        have hf := zLt_s ex12 hf
        refine zr_goto (pc := 194) (tgt := 40) h dX12_laysSlots_194 rfl ?_
        exact zr_weak h [true, true, false, true, true, false, false] (hk40 _ _ _ _ hf)
    · have hf := hf.2 b32
      refine zr_iload_n (pc := 69) h dX12_laysSlots_69 rfl rfl ?_
      refine zr_iload (pc := 70) h dX12_laysSlots_70 rfl ?_
      obtain ⟨x14, ex14, hf⟩ := zBd_s hf
      refine zm_X12_186 (pc := 72) h ⟨by decide, by decide⟩ (cX12_isOf_ok ex14) rfl (Nat.le_of_ble_eq_true rfl) dX12_laysSlots_72 rfl ?_
      have hf := zIf_s hf
      refine zr_if_eq (pc := 75) (tgt := 159) h dX12_laysSlots_75 rfl (fun b31 => ?_) (fun b31 => ?_)
      · have hf := hf.1 b31
        refine zr_iincx (pc := 159) h dX12_laysSlots_159 rfl (by decide) rfl (c := (1 : Int32)) (by decide) (fun x15 ex15 => ?_)
        have hf := zLt_s ex15 hf
        refine zr_goto (pc := 162) (tgt := 60) h dX12_laysSlots_162 rfl ?_
        exact zr_weak h [true, true, false, true, true, true, true] (ih _ _ _ _ _ _ hf)
      · have hf := hf.2 b31
        refine zr_aload_n (pc := 78) h dX12_laysSlots_78 rfl rfl ?_
        refine zf_X12_17 (pc := 79) h gkc_267 dX12_laysSlots_79 ?_
        refine zr_bipush (pc := 82) (v := (83 : Int32)) h dX12_laysSlots_82 (by decide) ?_
        refine zr_iload_n (pc := 84) h dX12_laysSlots_84 rfl rfl ?_
        refine zr_iload (pc := 85) h dX12_laysSlots_85 rfl ?_
        obtain ⟨x16, ex16, hf⟩ := zBd_s hf
        refine zm_X12_190 (pc := 87) h ⟨by decide, by decide⟩ (cX12_of_ok ex16) rfl (Nat.le_of_ble_eq_true rfl) dX12_laysSlots_87 rfl ?_
        refine zr_iadd (pc := 90) h dX12_laysSlots_90 ?_
        obtain ⟨q17, hf⟩ := zCk_s hf
        refine zr_iald (pc := 91) h gkc_269 q17 rfl dX12_laysSlots_91 ?_
        have hf := zIf_s hf
        refine zr_if_ne (pc := 92) (tgt := 98) h dX12_laysSlots_92 rfl (fun b30 => ?_) (fun b30 => ?_)
        · have hf := hf.2 b30
          refine zr_iload (pc := 98) h dX12_laysSlots_98 rfl ?_
          refine zr_iconst (pc := 100) (v := (-1 : Int32)) h dX12_laysSlots_100 (by decide) ?_
          have hf := zIf_s hf
          refine zr_icmp_eq (pc := 101) (tgt := 155) h dX12_laysSlots_101 rfl (fun b28 => ?_) (fun b28 => ?_)
          · have hf := hf.1 b28
            refine zr_iload (pc := 155) h dX12_laysSlots_155 rfl ?_
            refine zr_istore (pc := 157) h dX12_laysSlots_157 (by decide) rfl ?_
            refine zr_iincx (pc := 159) h dX12_laysSlots_159 rfl (by decide) rfl (c := (1 : Int32)) (by decide) (fun x18 ex18 => ?_)
            have hf := zLt_s ex18 hf
            refine zr_goto (pc := 162) (tgt := 60) h dX12_laysSlots_162 rfl ?_
            exact zr_weak h [true, true, false, true, true, true, true] (ih _ _ _ _ _ _ hf)
          · have hf := hf.2 b28
            refine zr_aload_n (pc := 104) h dX12_laysSlots_104 rfl rfl ?_
            refine zf_X12_17 (pc := 105) h gkc_267 dX12_laysSlots_105 ?_
            refine zr_bipush (pc := 108) (v := (83 : Int32)) h dX12_laysSlots_108 (by decide) ?_
            refine zr_iload_n (pc := 110) h dX12_laysSlots_110 rfl rfl ?_
            refine zr_iload (pc := 111) h dX12_laysSlots_111 rfl ?_
            obtain ⟨x19, ex19, hf⟩ := zBd_s hf
            refine zm_X12_190 (pc := 113) h ⟨by decide, by decide⟩ (cX12_of_ok ex19) rfl (Nat.le_of_ble_eq_true rfl) dX12_laysSlots_113 rfl ?_
            refine zr_iadd (pc := 116) h dX12_laysSlots_116 ?_
            obtain ⟨q20, hf⟩ := zCk_s hf
            refine zr_iald (pc := 117) h gkc_269 q20 rfl dX12_laysSlots_117 ?_
            refine zr_aload_n (pc := 118) h dX12_laysSlots_118 rfl rfl ?_
            refine zf_X12_43 (pc := 119) h gkc_267 dX12_laysSlots_119 ?_
            refine zr_iload (pc := 122) h dX12_laysSlots_122 rfl ?_
            obtain ⟨q21, hf⟩ := zCk_s hf
            refine zr_iald (pc := 124) h gkc_277 q21 rfl dX12_laysSlots_124 ?_
            refine zr_iconst (pc := 125) (v := (1 : Int32)) h dX12_laysSlots_125 (by decide) ?_
            refine zr_iadd (pc := 126) h dX12_laysSlots_126 ?_
            refine zr_imul (pc := 127) h dX12_laysSlots_127 ?_
            refine zr_aload_n (pc := 128) h dX12_laysSlots_128 rfl rfl ?_
            refine zf_X12_17 (pc := 129) h gkc_267 dX12_laysSlots_129 ?_
            refine zr_bipush (pc := 132) (v := (83 : Int32)) h dX12_laysSlots_132 (by decide) ?_
            refine zr_iload_n (pc := 134) h dX12_laysSlots_134 rfl rfl ?_
            refine zr_iload (pc := 135) h dX12_laysSlots_135 rfl ?_
            obtain ⟨x22, ex22, hf⟩ := zBd_s hf
            refine zm_X12_190 (pc := 137) h ⟨by decide, by decide⟩ (cX12_of_ok ex22) rfl (Nat.le_of_ble_eq_true rfl) dX12_laysSlots_137 rfl ?_
            refine zr_iadd (pc := 140) h dX12_laysSlots_140 ?_
            obtain ⟨q23, hf⟩ := zCk_s hf
            refine zr_iald (pc := 141) h gkc_269 q23 rfl dX12_laysSlots_141 ?_
            refine zr_aload_n (pc := 142) h dX12_laysSlots_142 rfl rfl ?_
            refine zf_X12_43 (pc := 143) h gkc_267 dX12_laysSlots_143 ?_
            refine zr_iload (pc := 146) h dX12_laysSlots_146 rfl ?_
            obtain ⟨q24, hf⟩ := zCk_s hf
            refine zr_iald (pc := 148) h gkc_277 q24 rfl dX12_laysSlots_148 ?_
            refine zr_iconst (pc := 149) (v := (1 : Int32)) h dX12_laysSlots_149 (by decide) ?_
            refine zr_iadd (pc := 150) h dX12_laysSlots_150 ?_
            refine zr_imul (pc := 151) h dX12_laysSlots_151 ?_
            have hf := zIf_s hf
            refine zr_icmp_le (pc := 152) (tgt := 159) h dX12_laysSlots_152 rfl (fun b27 => ?_) (fun b27 => ?_)
            · have hf := hf.1 b27
              refine zr_iincx (pc := 159) h dX12_laysSlots_159 rfl (by decide) rfl (c := (1 : Int32)) (by decide) (fun x25 ex25 => ?_)
              have hf := zLt_s ex25 hf
              refine zr_goto (pc := 162) (tgt := 60) h dX12_laysSlots_162 rfl ?_
              exact zr_weak h [true, true, false, true, true, true, true] (ih _ _ _ _ _ _ hf)
            · have hf := hf.2 b27
              refine zr_iload (pc := 155) h dX12_laysSlots_155 rfl ?_
              refine zr_istore (pc := 157) h dX12_laysSlots_157 (by decide) rfl ?_
              refine zr_iincx (pc := 159) h dX12_laysSlots_159 rfl (by decide) rfl (c := (1 : Int32)) (by decide) (fun x26 ex26 => ?_)
              have hf := zLt_s ex26 hf
              refine zr_goto (pc := 162) (tgt := 60) h dX12_laysSlots_162 rfl ?_
              exact zr_weak h [true, true, false, true, true, true, true] (ih _ _ _ _ _ _ hf)
        · have hf := hf.1 b30
          refine zr_goto (pc := 95) (tgt := 159) h dX12_laysSlots_95 rfl ?_
          refine zr_iincx (pc := 159) h dX12_laysSlots_159 rfl (by decide) rfl (c := (1 : Int32)) (by decide) (fun x29 ex29 => ?_)
          have hf := zLt_s ex29 hf
          refine zr_goto (pc := 162) (tgt := 60) h dX12_laysSlots_162 rfl ?_
          exact zr_weak h [true, true, false, true, true, true, true] (ih _ _ _ _ _ _ hf)

set_option maxRecDepth 100000 in
set_option maxHeartbeats 4000000 in
theorem fX12_laysSlots_l40_ok {l : Launch} {g : gG} {ν : gM} {K : gKt} (h : gR l g cX12_laysSlots RX12 7 none (gRm 2 45) none ν K) : ∀ (n : Nat) (y1 : Int32) (y3 : Int32) (y4 : Int32) (μ : gM), fX12_laysSlots_l40 n y1 y3 y4 μ = some ν → K 40 [some (.ref (g.1 + 267)), some (.int y1), none, some (.int y3), some (.int y4), none, none] [] μ := by
  intro n
  induction n with
  | zero =>
    intro y1 y3 y4 μ hf
    cases (show (none : Option gM) = some _ from hf)
  | succ n ih =>
    intro y1 y3 y4 μ hf
    unfold fX12_laysSlots_l40 at hf
    refine zr_iload (pc := 40) h dX12_laysSlots_40 rfl ?_
    refine zr_aload_n (pc := 42) h dX12_laysSlots_42 rfl rfl ?_
    refine zf_X12_17 (pc := 43) h gkc_267 dX12_laysSlots_43 ?_
    refine zr_bipush (pc := 46) (v := (43 : Int32)) h dX12_laysSlots_46 (by decide) ?_
    refine zr_iload_n (pc := 48) h dX12_laysSlots_48 rfl rfl ?_
    refine zr_iadd (pc := 49) h dX12_laysSlots_49 ?_
    obtain ⟨q4, hf⟩ := zCk_s hf
    refine zr_iald (pc := 50) h gkc_269 q4 rfl dX12_laysSlots_50 ?_
    have hf := zIf_s hf
    refine zr_icmp_ge (pc := 51) (tgt := 197) h dX12_laysSlots_51 rfl (fun b33 => ?_) (fun b33 => ?_)
    · have hf := hf.1 b33
      exact zr_vret (pc := 197) h dX12_laysSlots_197 rfl (zRv hf)
    · have hf := hf.2 b33
      refine zr_iconst (pc := 54) (v := (-1 : Int32)) h dX12_laysSlots_54 (by decide) ?_
      refine zr_istore (pc := 55) h dX12_laysSlots_55 (by decide) rfl ?_
      refine zr_iconst (pc := 57) (v := (0 : Int32)) h dX12_laysSlots_57 (by decide) ?_
      refine zr_istore (pc := 58) h dX12_laysSlots_58 (by decide) rfl ?_
      exact zr_weak h [true, true, false, true, true, true, true] (fX12_laysSlots_l60_ok h ih 100000 _ _ _ _ _ _ hf)

set_option maxRecDepth 100000 in
set_option maxHeartbeats 4000000 in
theorem fX12_laysSlots_l16_ok {l : Launch} {g : gG} {ν : gM} {K : gKt} (h : gR l g cX12_laysSlots RX12 7 none (gRm 2 45) none ν K) : ∀ (n : Nat) (y1 : Int32) (y3 : Int32) (y4 : Int32) (μ : gM), fX12_laysSlots_l16 n y1 y3 y4 μ = some ν → K 16 [some (.ref (g.1 + 267)), some (.int y1), none, some (.int y3), some (.int y4), none, none] [] μ := by
  intro n
  induction n with
  | zero =>
    intro y1 y3 y4 μ hf
    cases (show (none : Option gM) = some _ from hf)
  | succ n ih =>
    intro y1 y3 y4 μ hf
    unfold fX12_laysSlots_l16 at hf
    refine zr_iload (pc := 16) h dX12_laysSlots_16 rfl ?_
    refine zr_bipush (pc := 18) (v := (6 : Int32)) h dX12_laysSlots_18 (by decide) ?_
    have hf := zIf_s hf
    refine zr_icmp_ge (pc := 20) (tgt := 37) h dX12_laysSlots_20 rfl (fun b37 => ?_) (fun b37 => ?_)
    · have hf := hf.1 b37
      refine zr_iconst (pc := 37) (v := (0 : Int32)) h dX12_laysSlots_37 (by decide) ?_
      refine zr_istore (pc := 38) h dX12_laysSlots_38 (by decide) rfl ?_
      exact zr_weak h [true, true, false, true, true, false, false] (fX12_laysSlots_l40_ok h 100000 _ _ _ _ hf)
    · have hf := hf.2 b37
      refine zr_aload_n (pc := 23) h dX12_laysSlots_23 rfl rfl ?_
      refine zf_X12_43 (pc := 24) h gkc_267 dX12_laysSlots_24 ?_
      refine zr_iload (pc := 27) h dX12_laysSlots_27 rfl ?_
      refine zr_iconst (pc := 29) (v := (0 : Int32)) h dX12_laysSlots_29 (by decide) ?_
      obtain ⟨q34, hf⟩ := zCk_s hf
      refine zr_iast (pc := 30) h gkc_277 q34 rfl dX12_laysSlots_30 ?_
      refine zr_mu h (fun μ35 eμ35 => ?_)
      have hf := zLt_s eμ35 hf
      refine zr_iincx (pc := 31) h dX12_laysSlots_31 rfl (by decide) rfl (c := (1 : Int32)) (by decide) (fun x36 ex36 => ?_)
      have hf := zLt_s ex36 hf
      refine zr_goto (pc := 34) (tgt := 16) h dX12_laysSlots_34 rfl ?_
      exact zr_weak h [true, true, false, true, true, false, false] (ih _ _ _ _ hf)

set_option maxRecDepth 100000 in
set_option maxHeartbeats 4000000 in
theorem cX12_laysSlots_ok {l : Launch} {g : gG} {a1 : Int32} {a2 : Int32} {μ : gM} {ν : gM} (hf : fX12_laysSlots a1 a2 μ = some ν) : gMet l g yX12_laysSlots cX12_laysSlots 7 none 2 45 [.ref (g.1 + 267), .int a1, .int a2] μ none ν := by
  refine gMet_of (gIni [.ref (g.1 + 267), .int a1, .int a2] ++ List.replicate 4 none) (by decide) (gIni_ok _ _) (Nat.le_of_ble_eq_true rfl) (fun K h => ?_)
  show K 0 [some (.ref (g.1 + 267)), some (.int a1), some (.int a2), none, none, none, none] [] μ
  unfold fX12_laysSlots at hf
  refine zr_aload_n (pc := 0) h dX12_laysSlots_0 rfl rfl ?_
  refine zr_iload_n (pc := 1) h dX12_laysSlots_1 rfl rfl ?_
  refine zr_iconst (pc := 2) (v := (1 : Int32)) h dX12_laysSlots_2 (by decide) ?_
  obtain ⟨x1, ex1, hf⟩ := zBd_s hf
  refine zm_X12_338 (pc := 3) h gkc_267 ⟨by decide, by decide⟩ (cX12_bitsOf_ok ex1) rfl (Nat.le_of_ble_eq_true rfl) dX12_laysSlots_3 rfl ?_
  refine zr_aload_n (pc := 6) h dX12_laysSlots_6 rfl rfl ?_
  refine zr_iload_n (pc := 7) h dX12_laysSlots_7 rfl rfl ?_
  obtain ⟨x2, ex2, hf⟩ := zBd_s hf
  refine zm_X12_376 (pc := 8) h gkc_267 ⟨by decide, by decide⟩ (cX12_partOf_ok ex2) rfl (Nat.le_of_ble_eq_true rfl) dX12_laysSlots_8 rfl ?_
  refine zr_iand (pc := 11) h dX12_laysSlots_11 ?_
  refine zr_topi h (fun x3 ex3 => ?_)
  have hf := zLt_s ex3 hf
  refine zr_istore_n (pc := 12) h dX12_laysSlots_12 rfl (by decide) rfl ?_
  refine zr_iconst (pc := 13) (v := (0 : Int32)) h dX12_laysSlots_13 (by decide) ?_
  refine zr_istore (pc := 14) h dX12_laysSlots_14 (by decide) rfl ?_
  exact zr_weak h [true, true, false, true, true, false, false] (fX12_laysSlots_l16_ok h 100000 _ _ _ _ hf)

set_option maxRecDepth 100000 in
set_option maxHeartbeats 4000000 in
theorem cX12_slot_ok {l : Launch} {g : gG} {a1 : Int32} {a2 : Int32} {a3 : Int32} {μ : gM} {r : Int32} {ν : gM} (hf : fX12_slot a1 a2 a3 μ = some (r, ν)) : gMet l g yX12_slot cX12_slot 4 (some .int) 3 71 [.ref (g.1 + 267), .int a1, .int a2, .int a3] μ (some (.int r)) ν := by
  refine gMet_of (gIni [.ref (g.1 + 267), .int a1, .int a2, .int a3] ++ List.replicate 0 none) (by decide) (gIni_ok _ _) (Nat.le_of_ble_eq_true rfl) (fun K h => ?_)
  show K 0 [some (.ref (g.1 + 267)), some (.int a1), some (.int a2), some (.int a3)] [] μ
  unfold fX12_slot at hf
  refine zr_aload_n (pc := 0) h dX12_slot_0 rfl rfl ?_
  refine zr_iconst (pc := 1) (v := (0 : Int32)) h dX12_slot_1 (by decide) ?_
  refine zp_X12_46 (pc := 2) h gkc_267 dX12_slot_2 ?_
  refine zr_mu h (fun μ1 eμ1 => ?_)
  have hf := zLt_s eμ1 hf
  refine zr_aload_n (pc := 5) h dX12_slot_5 rfl rfl ?_
  refine zr_iload_n (pc := 6) h dX12_slot_6 rfl rfl ?_
  obtain ⟨x2, ex2, hf⟩ := zBd_s hf
  refine zm_X12_259 (pc := 7) h gkc_267 ⟨by decide, by decide⟩ (cX12_isGroup_ok ex2) rfl (Nat.le_of_ble_eq_true rfl) dX12_slot_7 rfl ?_
  have hf := zIf_s hf
  refine zr_if_eq (pc := 10) (tgt := 42) h dX12_slot_10 rfl (fun b10 => ?_) (fun b10 => ?_)
  · have hf := hf.1 b10
    refine zr_iconst (pc := 42) (v := (-1 : Int32)) h dX12_slot_42 (by decide) ?_
    exact zr_iret (pc := 43) h dX12_slot_43 (zRp hf).1 (zRp hf).2
  · have hf := hf.2 b10
    refine zr_aload_n (pc := 13) h dX12_slot_13 rfl rfl ?_
    refine zr_iload_n (pc := 14) h dX12_slot_14 rfl rfl ?_
    obtain ⟨x3, ex3, hf⟩ := zBd_s hf
    refine zm_X12_262 (pc := 15) h gkc_267 ⟨by decide, by decide⟩ (cX12_isGate_ok ex3) rfl (Nat.le_of_ble_eq_true rfl) dX12_slot_15 rfl ?_
    have hf := zIf_s hf
    refine zr_if_eq (pc := 18) (tgt := 42) h dX12_slot_18 rfl (fun b9 => ?_) (fun b9 => ?_)
    · have hf := hf.1 b9
      refine zr_iconst (pc := 42) (v := (-1 : Int32)) h dX12_slot_42 (by decide) ?_
      exact zr_iret (pc := 43) h dX12_slot_43 (zRp hf).1 (zRp hf).2
    · have hf := hf.2 b9
      refine zr_iload_n (pc := 21) h dX12_slot_21 rfl rfl ?_
      refine zr_i2l (pc := 22) h dX12_slot_22 ?_
      refine zr_lconst (pc := 23) (v := (0 : Int64)) h dX12_slot_23 (by decide) ?_
      refine zr_aload_n (pc := 24) h dX12_slot_24 rfl rfl ?_
      refine zf_X12_17 (pc := 25) h gkc_267 dX12_slot_25 ?_
      refine zr_bipush (pc := 28) (v := (43 : Int32)) h dX12_slot_28 (by decide) ?_
      refine zr_iload_n (pc := 30) h dX12_slot_30 rfl rfl ?_
      refine zr_iadd (pc := 31) h dX12_slot_31 ?_
      obtain ⟨q4, hf⟩ := zCk_s hf
      refine zr_iald (pc := 32) h gkc_269 q4 rfl dX12_slot_32 ?_
      refine zr_iconst (pc := 33) (v := (1 : Int32)) h dX12_slot_33 (by decide) ?_
      refine zr_isub (pc := 34) h dX12_slot_34 ?_
      refine zr_i2l (pc := 35) h dX12_slot_35 ?_
      obtain ⟨x5, ex5, hf⟩ := zBd_s hf
      refine zm_X12_56 (pc := 36) h ⟨by decide, by decide⟩ (cX12_isIn_ok ex5) rfl (Nat.le_of_ble_eq_true rfl) dX12_slot_36 rfl ?_
      have hf := zIf_s hf
      refine zr_if_ne (pc := 39) (tgt := 44) h dX12_slot_39 rfl (fun b8 => ?_) (fun b8 => ?_)
      · have hf := hf.2 b8
        refine zr_aload_n (pc := 44) h dX12_slot_44 rfl rfl ?_
        refine zr_iload_n (pc := 45) h dX12_slot_45 rfl rfl ?_
        refine zr_iload_n (pc := 46) h dX12_slot_46 rfl rfl ?_
        obtain ⟨μ6, eμ6, hf⟩ := zBd_s hf
        refine zm_X12_385 (pc := 47) h gkc_267 ⟨by decide, by decide⟩ (cX12_laysSlots_ok eμ6) rfl (Nat.le_of_ble_eq_true rfl) dX12_slot_47 rfl ?_
        refine zr_aload_n (pc := 50) h dX12_slot_50 rfl rfl ?_
        refine zf_X12_40 (pc := 51) h gkc_267 dX12_slot_51 ?_
        refine zr_iload_n (pc := 54) h dX12_slot_54 rfl rfl ?_
        obtain ⟨q7, hf⟩ := zCk_s hf
        refine zr_iald (pc := 55) h gkc_276 q7 rfl dX12_slot_55 ?_
        exact zr_iret (pc := 56) h dX12_slot_56 (zRp hf).1 (zRp hf).2
      · have hf := hf.1 b8
        refine zr_iconst (pc := 42) (v := (-1 : Int32)) h dX12_slot_42 (by decide) ?_
        exact zr_iret (pc := 43) h dX12_slot_43 (zRp hf).1 (zRp hf).2

set_option maxRecDepth 100000 in
set_option maxHeartbeats 4000000 in
theorem cX12_slots_ok {l : Launch} {g : gG} {a1 : Int32} {a2 : Int32} {μ : gM} {r : Int32} {ν : gM} (hf : fX12_slots a1 a2 μ = some (r, ν)) : gMet l g yX12_slots cX12_slots 3 (some .int) 3 71 [.ref (g.1 + 267), .int a1, .int a2] μ (some (.int r)) ν := by
  refine gMet_of (gIni [.ref (g.1 + 267), .int a1, .int a2] ++ List.replicate 0 none) (by decide) (gIni_ok _ _) (Nat.le_of_ble_eq_true rfl) (fun K h => ?_)
  show K 0 [some (.ref (g.1 + 267)), some (.int a1), some (.int a2)] [] μ
  unfold fX12_slots at hf
  refine zr_aload_n (pc := 0) h dX12_slots_0 rfl rfl ?_
  refine zr_iconst (pc := 1) (v := (0 : Int32)) h dX12_slots_1 (by decide) ?_
  refine zp_X12_46 (pc := 2) h gkc_267 dX12_slots_2 ?_
  refine zr_mu h (fun μ1 eμ1 => ?_)
  have hf := zLt_s eμ1 hf
  refine zr_aload_n (pc := 5) h dX12_slots_5 rfl rfl ?_
  refine zr_iload_n (pc := 6) h dX12_slots_6 rfl rfl ?_
  obtain ⟨x2, ex2, hf⟩ := zBd_s hf
  refine zm_X12_259 (pc := 7) h gkc_267 ⟨by decide, by decide⟩ (cX12_isGroup_ok ex2) rfl (Nat.le_of_ble_eq_true rfl) dX12_slots_7 rfl ?_
  have hf := zIf_s hf
  refine zr_if_eq (pc := 10) (tgt := 21) h dX12_slots_10 rfl (fun b7 => ?_) (fun b7 => ?_)
  · have hf := hf.1 b7
    refine zr_iconst (pc := 21) (v := (-1 : Int32)) h dX12_slots_21 (by decide) ?_
    exact zr_iret (pc := 22) h dX12_slots_22 (zRp hf).1 (zRp hf).2
  · have hf := hf.2 b7
    refine zr_aload_n (pc := 13) h dX12_slots_13 rfl rfl ?_
    refine zr_iload_n (pc := 14) h dX12_slots_14 rfl rfl ?_
    obtain ⟨x3, ex3, hf⟩ := zBd_s hf
    refine zm_X12_262 (pc := 15) h gkc_267 ⟨by decide, by decide⟩ (cX12_isGate_ok ex3) rfl (Nat.le_of_ble_eq_true rfl) dX12_slots_15 rfl ?_
    have hf := zIf_s hf
    refine zr_if_ne (pc := 18) (tgt := 23) h dX12_slots_18 rfl (fun b6 => ?_) (fun b6 => ?_)
    · have hf := hf.2 b6
      refine zr_aload_n (pc := 23) h dX12_slots_23 rfl rfl ?_
      refine zr_iload_n (pc := 24) h dX12_slots_24 rfl rfl ?_
      refine zr_iload_n (pc := 25) h dX12_slots_25 rfl rfl ?_
      obtain ⟨μ4, eμ4, hf⟩ := zBd_s hf
      refine zm_X12_385 (pc := 26) h gkc_267 ⟨by decide, by decide⟩ (cX12_laysSlots_ok eμ4) rfl (Nat.le_of_ble_eq_true rfl) dX12_slots_26 rfl ?_
      refine zr_aload_n (pc := 29) h dX12_slots_29 rfl rfl ?_
      refine zf_X12_43 (pc := 30) h gkc_267 dX12_slots_30 ?_
      refine zr_iload_n (pc := 33) h dX12_slots_33 rfl rfl ?_
      obtain ⟨q5, hf⟩ := zCk_s hf
      refine zr_iald (pc := 34) h gkc_277 q5 rfl dX12_slots_34 ?_
      exact zr_iret (pc := 35) h dX12_slots_35 (zRp hf).1 (zRp hf).2
    · have hf := hf.1 b6
      refine zr_iconst (pc := 21) (v := (-1 : Int32)) h dX12_slots_21 (by decide) ?_
      exact zr_iret (pc := 22) h dX12_slots_22 (zRp hf).1 (zRp hf).2

set_option maxRecDepth 100000 in
set_option maxHeartbeats 4000000 in
theorem cX12_host_ok {l : Launch} {g : gG} {a1 : Int32} {a2 : Int32} {a3 : Int32} {μ : gM} {r : Int32} {ν : gM} (hf : fX12_host a1 a2 a3 μ = some (r, ν)) : gMet l g yX12_host cX12_host 4 (some .int) 3 71 [.ref (g.1 + 267), .int a1, .int a2, .int a3] μ (some (.int r)) ν := by
  refine gMet_of (gIni [.ref (g.1 + 267), .int a1, .int a2, .int a3] ++ List.replicate 0 none) (by decide) (gIni_ok _ _) (Nat.le_of_ble_eq_true rfl) (fun K h => ?_)
  show K 0 [some (.ref (g.1 + 267)), some (.int a1), some (.int a2), some (.int a3)] [] μ
  unfold fX12_host at hf
  refine zr_aload_n (pc := 0) h dX12_host_0 rfl rfl ?_
  refine zr_iconst (pc := 1) (v := (0 : Int32)) h dX12_host_1 (by decide) ?_
  refine zp_X12_46 (pc := 2) h gkc_267 dX12_host_2 ?_
  refine zr_mu h (fun μ1 eμ1 => ?_)
  have hf := zLt_s eμ1 hf
  refine zr_aload_n (pc := 5) h dX12_host_5 rfl rfl ?_
  refine zr_iload_n (pc := 6) h dX12_host_6 rfl rfl ?_
  obtain ⟨x2, ex2, hf⟩ := zBd_s hf
  refine zm_X12_259 (pc := 7) h gkc_267 ⟨by decide, by decide⟩ (cX12_isGroup_ok ex2) rfl (Nat.le_of_ble_eq_true rfl) dX12_host_7 rfl ?_
  have hf := zIf_s hf
  refine zr_if_eq (pc := 10) (tgt := 25) h dX12_host_10 rfl (fun b10 => ?_) (fun b10 => ?_)
  · have hf := hf.1 b10
    refine zr_iconst (pc := 25) (v := (-1 : Int32)) h dX12_host_25 (by decide) ?_
    exact zr_iret (pc := 26) h dX12_host_26 (zRp hf).1 (zRp hf).2
  · have hf := hf.2 b10
    refine zr_aload_n (pc := 13) h dX12_host_13 rfl rfl ?_
    refine zr_iload_n (pc := 14) h dX12_host_14 rfl rfl ?_
    obtain ⟨x3, ex3, hf⟩ := zBd_s hf
    refine zm_X12_262 (pc := 15) h gkc_267 ⟨by decide, by decide⟩ (cX12_isGate_ok ex3) rfl (Nat.le_of_ble_eq_true rfl) dX12_host_15 rfl ?_
    have hf := zIf_s hf
    refine zr_if_eq (pc := 18) (tgt := 25) h dX12_host_18 rfl (fun b9 => ?_) (fun b9 => ?_)
    · have hf := hf.1 b9
      refine zr_iconst (pc := 25) (v := (-1 : Int32)) h dX12_host_25 (by decide) ?_
      exact zr_iret (pc := 26) h dX12_host_26 (zRp hf).1 (zRp hf).2
    · have hf := hf.2 b9
      refine zr_iload_n (pc := 21) h dX12_host_21 rfl rfl ?_
      have hf := zIf_s hf
      refine zr_if_ge (pc := 22) (tgt := 27) h dX12_host_22 rfl (fun b8 => ?_) (fun b8 => ?_)
      · have hf := hf.1 b8
        refine zr_aload_n (pc := 27) h dX12_host_27 rfl rfl ?_
        refine zr_iload_n (pc := 28) h dX12_host_28 rfl rfl ?_
        refine zr_iload_n (pc := 29) h dX12_host_29 rfl rfl ?_
        obtain ⟨μ4, eμ4, hf⟩ := zBd_s hf
        refine zm_X12_385 (pc := 30) h gkc_267 ⟨by decide, by decide⟩ (cX12_laysSlots_ok eμ4) rfl (Nat.le_of_ble_eq_true rfl) dX12_host_30 rfl ?_
        refine zr_aload_n (pc := 33) h dX12_host_33 rfl rfl ?_
        refine zf_X12_40 (pc := 34) h gkc_267 dX12_host_34 ?_
        refine zr_iload_n (pc := 37) h dX12_host_37 rfl rfl ?_
        refine zr_aload_n (pc := 38) h dX12_host_38 rfl rfl ?_
        refine zf_X12_17 (pc := 39) h gkc_267 dX12_host_39 ?_
        refine zr_bipush (pc := 42) (v := (43 : Int32)) h dX12_host_42 (by decide) ?_
        refine zr_iload_n (pc := 44) h dX12_host_44 rfl rfl ?_
        refine zr_iadd (pc := 45) h dX12_host_45 ?_
        obtain ⟨q5, hf⟩ := zCk_s hf
        refine zr_iald (pc := 46) h gkc_269 q5 rfl dX12_host_46 ?_
        obtain ⟨q6, hf⟩ := zCk_s hf
        refine zr_irem (pc := 47) h dX12_host_47 (by simpa using q6) ?_
        obtain ⟨q7, hf⟩ := zCk_s hf
        refine zr_iald (pc := 48) h gkc_276 q7 rfl dX12_host_48 ?_
        exact zr_iret (pc := 49) h dX12_host_49 (zRp hf).1 (zRp hf).2
      · have hf := hf.2 b8
        refine zr_iconst (pc := 25) (v := (-1 : Int32)) h dX12_host_25 (by decide) ?_
        exact zr_iret (pc := 26) h dX12_host_26 (zRp hf).1 (zRp hf).2

set_option maxRecDepth 100000 in
set_option maxHeartbeats 4000000 in
theorem fX12_load_n96_ok {l : Launch} {g : gG} {k58 : Int32 → Int32 → Int32 → Int32 → Int32 → gM → Option (Int32 × gM)} {r : Int32} {ν : gM} {K : gKt} (h : gR l g cX12_load RX12 7 (some .int) (gRm 3 71) (some (.int r)) ν K) (hk58 : ∀ (y2 : Int32) (y3 : Int32) (y4 : Int32) (y5 : Int32) (y6 : Int32) (ν1 : gM), k58 y2 y3 y4 y5 y6 ν1 = some (r, ν) → K 58 [some (.ref (g.1 + 267)), none, some (.int y2), some (.int y3), some (.int y4), some (.int y5), some (.int y6)] [] ν1) {y2 : Int32} {y3 : Int32} {y4 : Int32} {y6 : Int32} {z0 : Int32} {z1 : Int32} {z2 : Int32} {μ : gM} (hf : fX12_load_n96 k58 y2 y3 y4 y6 z0 z1 z2 μ = some (r, ν)) : K 96 [some (.ref (g.1 + 267)), none, some (.int y2), some (.int y3), some (.int y4), none, some (.int y6)] [.int z0, .int z1, .int z2] μ := by
  unfold fX12_load_n96 at hf
  obtain ⟨x12, ex12, hf⟩ := zBd_s hf
  refine zm_X12_178 (pc := 96) h ⟨by decide, by decide⟩ (cX12_flag_ok ex12) rfl (Nat.le_of_ble_eq_true rfl) dX12_load_96 rfl ?_
  refine zr_iadd (pc := 99) h dX12_load_99 ?_
  refine zr_iadd (pc := 100) h dX12_load_100 ?_
  refine zr_topi h (fun x13 ex13 => ?_)
  have hf := zLt_s ex13 hf
  refine zr_istore (pc := 101) h dX12_load_101 (by decide) rfl ?_
  refine zr_iincx (pc := 103) h dX12_load_103 rfl (by decide) rfl (c := (1 : Int32)) (by decide) (fun x14 ex14 => ?_)
  have hf := zLt_s ex14 hf
  refine zr_goto (pc := 106) (tgt := 58) h dX12_load_106 rfl ?_
  exact zr_weak h [true, false, true, true, true, true, true] (hk58 _ _ _ _ _ _ hf)

set_option maxRecDepth 100000 in
set_option maxHeartbeats 4000000 in
theorem fX12_load_l58_ok {l : Launch} {g : gG} {r : Int32} {ν : gM} {K : gKt} (h : gR l g cX12_load RX12 7 (some .int) (gRm 3 71) (some (.int r)) ν K) : ∀ (n : Nat) (y2 : Int32) (y3 : Int32) (y4 : Int32) (y5 : Int32) (y6 : Int32) (μ : gM), fX12_load_l58 n y2 y3 y4 y5 y6 μ = some (r, ν) → K 58 [some (.ref (g.1 + 267)), none, some (.int y2), some (.int y3), some (.int y4), some (.int y5), some (.int y6)] [] μ := by
  intro n
  induction n with
  | zero =>
    intro y2 y3 y4 y5 y6 μ hf
    cases (show (none : Option (Int32 × gM)) = some _ from hf)
  | succ n ih =>
    intro y2 y3 y4 y5 y6 μ hf
    unfold fX12_load_l58 at hf
    refine zr_iload (pc := 58) h dX12_load_58 rfl ?_
    refine zr_iload (pc := 60) h dX12_load_60 rfl ?_
    have hf := zIf_s hf
    refine zr_icmp_ge (pc := 62) (tgt := 109) h dX12_load_62 rfl (fun b17 => ?_) (fun b17 => ?_)
    · have hf := hf.1 b17
      refine zr_iload (pc := 109) h dX12_load_109 rfl ?_
      exact zr_iret (pc := 111) h dX12_load_111 (zRp hf).1 (zRp hf).2
    · have hf := hf.2 b17
      refine zr_aload_n (pc := 65) h dX12_load_65 rfl rfl ?_
      refine zf_X12_40 (pc := 66) h gkc_267 dX12_load_66 ?_
      refine zr_iload (pc := 69) h dX12_load_69 rfl ?_
      obtain ⟨q8, hf⟩ := zCk_s hf
      refine zr_iald (pc := 71) h gkc_276 q8 rfl dX12_load_71 ?_
      refine zr_iload_n (pc := 72) h dX12_load_72 rfl rfl ?_
      have hf := zIf_s hf
      refine zr_icmp_ne (pc := 73) (tgt := 103) h dX12_load_73 rfl (fun b16 => ?_) (fun b16 => ?_)
      · have hf := hf.2 b16
        refine zr_iincx (pc := 103) h dX12_load_103 rfl (by decide) rfl (c := (1 : Int32)) (by decide) (fun x9 ex9 => ?_)
        have hf := zLt_s ex9 hf
        refine zr_goto (pc := 106) (tgt := 58) h dX12_load_106 rfl ?_
        exact zr_weak h [true, false, true, true, true, true, true] (ih _ _ _ _ _ _ hf)
      · have hf := hf.1 b16
        refine zr_iload (pc := 76) h dX12_load_76 rfl ?_
        refine zr_iload_n (pc := 78) h dX12_load_78 rfl rfl ?_
        refine zr_iload (pc := 79) h dX12_load_79 rfl ?_
        obtain ⟨q10, hf⟩ := zCk_s hf
        refine zr_idiv (pc := 81) h dX12_load_81 (by simpa using q10) ?_
        refine zr_iload (pc := 82) h dX12_load_82 rfl ?_
        refine zr_iload_n (pc := 84) h dX12_load_84 rfl rfl ?_
        refine zr_iload (pc := 85) h dX12_load_85 rfl ?_
        obtain ⟨q11, hf⟩ := zCk_s hf
        refine zr_irem (pc := 87) h dX12_load_87 (by simpa using q11) ?_
        have hf := zIf_s hf
        refine zr_icmp_ge (pc := 88) (tgt := 95) h dX12_load_88 rfl (fun b15 => ?_) (fun b15 => ?_)
        · have hf := hf.1 b15
          refine zr_iconst (pc := 95) (v := (0 : Int32)) h dX12_load_95 (by decide) ?_
          exact zr_weak h [true, false, true, true, true, false, true] (fX12_load_n96_ok h ih hf)
        · have hf := hf.2 b15
          refine zr_iconst (pc := 91) (v := (1 : Int32)) h dX12_load_91 (by decide) ?_
          refine zr_goto (pc := 92) (tgt := 96) h dX12_load_92 rfl ?_
          exact zr_weak h [true, false, true, true, true, false, true] (fX12_load_n96_ok h ih hf)

set_option maxRecDepth 100000 in
set_option maxHeartbeats 4000000 in
theorem cX12_load_ok {l : Launch} {g : gG} {a1 : Int32} {a2 : Int32} {a3 : Int32} {μ : gM} {r : Int32} {ν : gM} (hf : fX12_load a1 a2 a3 μ = some (r, ν)) : gMet l g yX12_load cX12_load 7 (some .int) 3 71 [.ref (g.1 + 267), .int a1, .int a2, .int a3] μ (some (.int r)) ν := by
  refine gMet_of (gIni [.ref (g.1 + 267), .int a1, .int a2, .int a3] ++ List.replicate 3 none) (by decide) (gIni_ok _ _) (Nat.le_of_ble_eq_true rfl) (fun K h => ?_)
  show K 0 [some (.ref (g.1 + 267)), some (.int a1), some (.int a2), some (.int a3), none, none, none] [] μ
  unfold fX12_load at hf
  refine zr_aload_n (pc := 0) h dX12_load_0 rfl rfl ?_
  refine zr_iconst (pc := 1) (v := (0 : Int32)) h dX12_load_1 (by decide) ?_
  refine zp_X12_46 (pc := 2) h gkc_267 dX12_load_2 ?_
  refine zr_mu h (fun μ1 eμ1 => ?_)
  have hf := zLt_s eμ1 hf
  refine zr_aload_n (pc := 5) h dX12_load_5 rfl rfl ?_
  refine zr_iload_n (pc := 6) h dX12_load_6 rfl rfl ?_
  obtain ⟨x2, ex2, hf⟩ := zBd_s hf
  refine zm_X12_259 (pc := 7) h gkc_267 ⟨by decide, by decide⟩ (cX12_isGroup_ok ex2) rfl (Nat.le_of_ble_eq_true rfl) dX12_load_7 rfl ?_
  have hf := zIf_s hf
  refine zr_if_eq (pc := 10) (tgt := 33) h dX12_load_10 rfl (fun b20 => ?_) (fun b20 => ?_)
  · have hf := hf.1 b20
    refine zr_iconst (pc := 33) (v := (-1 : Int32)) h dX12_load_33 (by decide) ?_
    exact zr_iret (pc := 34) h dX12_load_34 (zRp hf).1 (zRp hf).2
  · have hf := hf.2 b20
    refine zr_aload_n (pc := 13) h dX12_load_13 rfl rfl ?_
    refine zr_iload_n (pc := 14) h dX12_load_14 rfl rfl ?_
    obtain ⟨x3, ex3, hf⟩ := zBd_s hf
    refine zm_X12_262 (pc := 15) h gkc_267 ⟨by decide, by decide⟩ (cX12_isGate_ok ex3) rfl (Nat.le_of_ble_eq_true rfl) dX12_load_15 rfl ?_
    have hf := zIf_s hf
    refine zr_if_eq (pc := 18) (tgt := 33) h dX12_load_18 rfl (fun b19 => ?_) (fun b19 => ?_)
    · have hf := hf.1 b19
      refine zr_iconst (pc := 33) (v := (-1 : Int32)) h dX12_load_33 (by decide) ?_
      exact zr_iret (pc := 34) h dX12_load_34 (zRp hf).1 (zRp hf).2
    · have hf := hf.2 b19
      refine zr_iload_n (pc := 21) h dX12_load_21 rfl rfl ?_
      refine zr_i2l (pc := 22) h dX12_load_22 ?_
      refine zr_lconst (pc := 23) (v := (1 : Int64)) h dX12_load_23 (by decide) ?_
      refine zr_ldc2 (pc := 24) h zw_1878 dX12_load_24 ?_
      obtain ⟨x4, ex4, hf⟩ := zBd_s hf
      refine zm_X12_56 (pc := 27) h ⟨by decide, by decide⟩ (cX12_isIn_ok ex4) rfl (Nat.le_of_ble_eq_true rfl) dX12_load_27 rfl ?_
      have hf := zIf_s hf
      refine zr_if_ne (pc := 30) (tgt := 35) h dX12_load_30 rfl (fun b18 => ?_) (fun b18 => ?_)
      · have hf := hf.2 b18
        refine zr_aload_n (pc := 35) h dX12_load_35 rfl rfl ?_
        refine zr_iload_n (pc := 36) h dX12_load_36 rfl rfl ?_
        refine zr_iload_n (pc := 37) h dX12_load_37 rfl rfl ?_
        obtain ⟨μ5, eμ5, hf⟩ := zBd_s hf
        refine zm_X12_385 (pc := 38) h gkc_267 ⟨by decide, by decide⟩ (cX12_laysSlots_ok eμ5) rfl (Nat.le_of_ble_eq_true rfl) dX12_load_38 rfl ?_
        refine zr_aload_n (pc := 41) h dX12_load_41 rfl rfl ?_
        refine zf_X12_17 (pc := 42) h gkc_267 dX12_load_42 ?_
        refine zr_bipush (pc := 45) (v := (43 : Int32)) h dX12_load_45 (by decide) ?_
        refine zr_iload_n (pc := 47) h dX12_load_47 rfl rfl ?_
        refine zr_iadd (pc := 48) h dX12_load_48 ?_
        obtain ⟨q6, hf⟩ := zCk_s hf
        refine zr_iald (pc := 49) h gkc_269 q6 rfl dX12_load_49 ?_
        refine zr_topi h (fun x7 ex7 => ?_)
        have hf := zLt_s ex7 hf
        refine zr_istore (pc := 50) h dX12_load_50 (by decide) rfl ?_
        refine zr_iconst (pc := 52) (v := (0 : Int32)) h dX12_load_52 (by decide) ?_
        refine zr_istore (pc := 53) h dX12_load_53 (by decide) rfl ?_
        refine zr_iconst (pc := 55) (v := (0 : Int32)) h dX12_load_55 (by decide) ?_
        refine zr_istore (pc := 56) h dX12_load_56 (by decide) rfl ?_
        exact zr_weak h [true, false, true, true, true, true, true] (fX12_load_l58_ok h 100000 _ _ _ _ _ _ hf)
      · have hf := hf.1 b18
        refine zr_iconst (pc := 33) (v := (-1 : Int32)) h dX12_load_33 (by decide) ?_
        exact zr_iret (pc := 34) h dX12_load_34 (zRp hf).1 (zRp hf).2

set_option maxRecDepth 100000 in
set_option maxHeartbeats 4000000 in
theorem cX12_toPaper_ok {l : Launch} {g : gG} {μ : gM} {ν : gM} (hf : fX12_toPaper μ = some ν) : gMet l g yX12_toPaper cX12_toPaper 1 none 1 22 [.ref (g.1 + 267)] μ none ν := by
  refine gMet_of (gIni [.ref (g.1 + 267)] ++ List.replicate 0 none) (by decide) (gIni_ok _ _) (Nat.le_of_ble_eq_true rfl) (fun K h => ?_)
  show K 0 [some (.ref (g.1 + 267))] [] μ
  unfold fX12_toPaper at hf
  refine zr_aload_n (pc := 0) h dX12_toPaper_0 rfl rfl ?_
  refine zr_bipush (pc := 1) (v := (14 : Int32)) h dX12_toPaper_1 (by decide) ?_
  obtain ⟨μ1, eμ1, hf⟩ := zBd_s hf
  refine zm_X12_250 (pc := 3) h gkc_267 ⟨by decide, by decide⟩ (cX12_putsTo_ok eμ1) rfl (Nat.le_of_ble_eq_true rfl) dX12_toPaper_3 rfl ?_
  exact zr_vret (pc := 6) h dX12_toPaper_6 rfl (zRv hf)

set_option maxRecDepth 100000 in
set_option maxHeartbeats 4000000 in
theorem cX12_fromPaper_ok {l : Launch} {g : gG} {a1 : Int32} {μ : gM} {r : Int32} {ν : gM} (hf : fX12_fromPaper a1 μ = some (r, ν)) : gMet l g yX12_fromPaper cX12_fromPaper 2 (some .int) 1 22 [.ref (g.1 + 267), .int a1] μ (some (.int r)) ν := by
  refine gMet_of (gIni [.ref (g.1 + 267), .int a1] ++ List.replicate 0 none) (by decide) (gIni_ok _ _) (Nat.le_of_ble_eq_true rfl) (fun K h => ?_)
  show K 0 [some (.ref (g.1 + 267)), some (.int a1)] [] μ
  unfold fX12_fromPaper at hf
  refine zr_aload_n (pc := 0) h dX12_fromPaper_0 rfl rfl ?_
  refine zr_bipush (pc := 1) (v := (14 : Int32)) h dX12_fromPaper_1 (by decide) ?_
  obtain ⟨μ1, eμ1, hf⟩ := zBd_s hf
  refine zm_X12_390 (pc := 3) h gkc_267 ⟨by decide, by decide⟩ (cX12_takesFrom_ok eμ1) rfl (Nat.le_of_ble_eq_true rfl) dX12_fromPaper_3 rfl ?_
  refine zr_iload_n (pc := 6) h dX12_fromPaper_6 rfl rfl ?_
  exact zr_iret (pc := 7) h dX12_fromPaper_7 (zRp hf).1 (zRp hf).2

set_option maxRecDepth 100000 in
set_option maxHeartbeats 4000000 in
theorem cX12_canGo_ok {l : Launch} {g : gG} {a1 : Int32} {μ : gM} {r : Int32} (hf : fX12_canGo a1 μ = some r) : gMet l g yX12_canGo cX12_canGo 2 (some .boolean) 0 0 [.ref (g.1 + 267), .int a1] μ (some (.int r)) μ := by
  refine gMet_of (gIni [.ref (g.1 + 267), .int a1] ++ List.replicate 0 none) (by decide) (gIni_ok _ _) (Nat.le_of_ble_eq_true rfl) (fun K h => ?_)
  show K 0 [some (.ref (g.1 + 267)), some (.int a1)] [] μ
  unfold fX12_canGo at hf
  refine zr_aload_n (pc := 0) h dX12_canGo_0 rfl rfl ?_
  refine zf_X12_27 (pc := 1) h gkc_267 dX12_canGo_1 ?_
  refine zr_iconst (pc := 4) (v := (0 : Int32)) h dX12_canGo_4 (by decide) ?_
  refine zr_iald (pc := 5) (q := 0) h gkc_272 rfl (by decide) dX12_canGo_5 ?_
  refine zr_iload_n (pc := 6) h dX12_canGo_6 rfl rfl ?_
  refine zr_iadd (pc := 7) h dX12_canGo_7 ?_
  refine zr_sipush (pc := 8) (v := (9999 : Int32)) h dX12_canGo_8 (by decide) ?_
  have hf := zIf_s hf
  refine zr_icmp_gt (pc := 11) (tgt := 18) h dX12_canGo_11 rfl (fun b1 => ?_) (fun b1 => ?_)
  · have hf := hf.1 b1
    refine zr_iconst (pc := 18) (v := (0 : Int32)) h dX12_canGo_18 (by decide) ?_
    exact zr_zret (pc := 19) h rfl dX12_canGo_19 (zRi hf) rfl
  · have hf := hf.2 b1
    refine zr_iconst (pc := 14) (v := (1 : Int32)) h dX12_canGo_14 (by decide) ?_
    refine zr_goto (pc := 15) (tgt := 19) h dX12_canGo_15 rfl ?_
    exact zr_zret (pc := 19) h rfl dX12_canGo_19 (zRi hf) rfl

set_option maxRecDepth 100000 in
set_option maxHeartbeats 4000000 in
theorem fX12_goes_l2_ok {l : Launch} {g : gG} {ν : gM} {K : gKt} (h : gR l g cX12_goes RX12 3 none (gRm 8 180) none ν K) : ∀ (n : Nat) (y1 : Int32) (y2 : Int32) (μ : gM), fX12_goes_l2 n y1 y2 μ = some ν → K 2 [some (.ref (g.1 + 267)), some (.int y1), some (.int y2)] [] μ := by
  intro n
  induction n with
  | zero =>
    intro y1 y2 μ hf
    cases (show (none : Option gM) = some _ from hf)
  | succ n ih =>
    intro y1 y2 μ hf
    unfold fX12_goes_l2 at hf
    refine zr_iload_n (pc := 2) h dX12_goes_2 rfl rfl ?_
    refine zr_iload_n (pc := 3) h dX12_goes_3 rfl rfl ?_
    have hf := zIf_s hf
    refine zr_icmp_ge (pc := 4) (tgt := 17) h dX12_goes_4 rfl (fun b3 => ?_) (fun b3 => ?_)
    · have hf := hf.1 b3
      exact zr_vret (pc := 17) h dX12_goes_17 rfl (zRv hf)
    · have hf := hf.2 b3
      refine zr_aload_n (pc := 7) h dX12_goes_7 rfl rfl ?_
      obtain ⟨μ1, eμ1, hf⟩ := zBd_s hf
      refine zm_X12_369 (pc := 8) h gkc_267 ⟨by decide, by decide⟩ (cX12_tickGoes_ok eμ1) rfl (Nat.le_of_ble_eq_true rfl) dX12_goes_8 rfl ?_
      refine zr_iincx (pc := 11) h dX12_goes_11 rfl (by decide) rfl (c := (1 : Int32)) (by decide) (fun x2 ex2 => ?_)
      have hf := zLt_s ex2 hf
      refine zr_goto (pc := 14) (tgt := 2) h dX12_goes_14 rfl ?_
      exact zr_weak h [true, true, true] (ih _ _ _ hf)

set_option maxRecDepth 100000 in
set_option maxHeartbeats 4000000 in
theorem cX12_goes_ok {l : Launch} {g : gG} {a1 : Int32} {μ : gM} {ν : gM} (hf : fX12_goes a1 μ = some ν) : gMet l g yX12_goes cX12_goes 3 none 8 180 [.ref (g.1 + 267), .int a1] μ none ν := by
  refine gMet_of (gIni [.ref (g.1 + 267), .int a1] ++ List.replicate 1 none) (by decide) (gIni_ok _ _) (Nat.le_of_ble_eq_true rfl) (fun K h => ?_)
  show K 0 [some (.ref (g.1 + 267)), some (.int a1), none] [] μ
  unfold fX12_goes at hf
  refine zr_iconst (pc := 0) (v := (0 : Int32)) h dX12_goes_0 (by decide) ?_
  refine zr_istore_n (pc := 1) h dX12_goes_1 rfl (by decide) rfl ?_
  exact zr_weak h [true, true, true] (fX12_goes_l2_ok h 100000 _ _ _ hf)

set_option maxRecDepth 100000 in
set_option maxHeartbeats 4000000 in
theorem cX12_ahead_ok {l : Launch} {g : gG} {a1 : Int32} {a2 : Int32} {μ : gM} {r : Int32} {ν : gM} (hf : fX12_ahead a1 a2 μ = some (r, ν)) : gMet l g yX12_ahead cX12_ahead 3 (some .int) 9 202 [.ref (g.1 + 267), .int a1, .int a2] μ (some (.int r)) ν := by
  refine gMet_of (gIni [.ref (g.1 + 267), .int a1, .int a2] ++ List.replicate 0 none) (by decide) (gIni_ok _ _) (Nat.le_of_ble_eq_true rfl) (fun K h => ?_)
  show K 0 [some (.ref (g.1 + 267)), some (.int a1), some (.int a2)] [] μ
  unfold fX12_ahead at hf
  refine zr_aload_n (pc := 0) h dX12_ahead_0 rfl rfl ?_
  refine zr_iconst (pc := 1) (v := (0 : Int32)) h dX12_ahead_1 (by decide) ?_
  refine zp_X12_46 (pc := 2) h gkc_267 dX12_ahead_2 ?_
  refine zr_mu h (fun μ1 eμ1 => ?_)
  have hf := zLt_s eμ1 hf
  refine zr_aload_n (pc := 5) h dX12_ahead_5 rfl rfl ?_
  refine zr_iload_n (pc := 6) h dX12_ahead_6 rfl rfl ?_
  obtain ⟨x2, ex2, hf⟩ := zBd_s hf
  refine zm_X12_259 (pc := 7) h gkc_267 ⟨by decide, by decide⟩ (cX12_isGroup_ok ex2) rfl (Nat.le_of_ble_eq_true rfl) dX12_ahead_7 rfl ?_
  have hf := zIf_s hf
  refine zr_if_eq (pc := 10) (tgt := 33) h dX12_ahead_10 rfl (fun b12 => ?_) (fun b12 => ?_)
  · have hf := hf.1 b12
    refine zr_iconst (pc := 33) (v := (-1 : Int32)) h dX12_ahead_33 (by decide) ?_
    exact zr_iret (pc := 34) h dX12_ahead_34 (zRp hf).1 (zRp hf).2
  · have hf := hf.2 b12
    refine zr_iload_n (pc := 13) h dX12_ahead_13 rfl rfl ?_
    refine zr_i2l (pc := 14) h dX12_ahead_14 ?_
    refine zr_lconst (pc := 15) (v := (0 : Int64)) h dX12_ahead_15 (by decide) ?_
    refine zr_ldc2 (pc := 16) h zw_1739 dX12_ahead_16 ?_
    obtain ⟨x3, ex3, hf⟩ := zBd_s hf
    refine zm_X12_56 (pc := 19) h ⟨by decide, by decide⟩ (cX12_isIn_ok ex3) rfl (Nat.le_of_ble_eq_true rfl) dX12_ahead_19 rfl ?_
    have hf := zIf_s hf
    refine zr_if_eq (pc := 22) (tgt := 33) h dX12_ahead_22 rfl (fun b11 => ?_) (fun b11 => ?_)
    · have hf := hf.1 b11
      refine zr_iconst (pc := 33) (v := (-1 : Int32)) h dX12_ahead_33 (by decide) ?_
      exact zr_iret (pc := 34) h dX12_ahead_34 (zRp hf).1 (zRp hf).2
    · have hf := hf.2 b11
      refine zr_aload_n (pc := 25) h dX12_ahead_25 rfl rfl ?_
      refine zr_iload_n (pc := 26) h dX12_ahead_26 rfl rfl ?_
      obtain ⟨x4, ex4, hf⟩ := zBd_s hf
      refine zm_X12_393 (pc := 27) h gkc_267 ⟨by decide, by decide⟩ (cX12_canGo_ok ex4) rfl (Nat.le_of_ble_eq_true rfl) dX12_ahead_27 rfl ?_
      have hf := zIf_s hf
      refine zr_if_ne (pc := 30) (tgt := 35) h dX12_ahead_30 rfl (fun b10 => ?_) (fun b10 => ?_)
      · have hf := hf.2 b10
        refine zr_aload_n (pc := 35) h dX12_ahead_35 rfl rfl ?_
        obtain ⟨μ5, eμ5, hf⟩ := zBd_s hf
        refine zm_X12_396 (pc := 36) h gkc_267 ⟨by decide, by decide⟩ (cX12_toPaper_ok eμ5) rfl (Nat.le_of_ble_eq_true rfl) dX12_ahead_36 rfl ?_
        refine zr_aload_n (pc := 39) h dX12_ahead_39 rfl rfl ?_
        refine zr_iload_n (pc := 40) h dX12_ahead_40 rfl rfl ?_
        obtain ⟨μ6, eμ6, hf⟩ := zBd_s hf
        refine zm_X12_399 (pc := 41) h gkc_267 ⟨by decide, by decide⟩ (cX12_goes_ok eμ6) rfl (Nat.le_of_ble_eq_true rfl) dX12_ahead_41 rfl ?_
        refine zr_aload_n (pc := 44) h dX12_ahead_44 rfl rfl ?_
        refine zr_aload_n (pc := 45) h dX12_ahead_45 rfl rfl ?_
        refine zr_iload_n (pc := 46) h dX12_ahead_46 rfl rfl ?_
        refine zr_iconst (pc := 47) (v := (2 : Int32)) h dX12_ahead_47 (by decide) ?_
        obtain ⟨x7, ex7, hf⟩ := zBd_s hf
        refine zm_X12_338 (pc := 48) h gkc_267 ⟨by decide, by decide⟩ (cX12_bitsOf_ok ex7) rfl (Nat.le_of_ble_eq_true rfl) dX12_ahead_48 rfl ?_
        obtain ⟨x8, μ9, ex8, hf⟩ := zBp_s hf
        refine zm_X12_402 (pc := 51) h gkc_267 ⟨by decide, by decide⟩ (cX12_fromPaper_ok ex8) rfl (Nat.le_of_ble_eq_true rfl) dX12_ahead_51 rfl ?_
        exact zr_iret (pc := 54) h dX12_ahead_54 (zRp hf).1 (zRp hf).2
      · have hf := hf.1 b10
        refine zr_iconst (pc := 33) (v := (-1 : Int32)) h dX12_ahead_33 (by decide) ?_
        exact zr_iret (pc := 34) h dX12_ahead_34 (zRp hf).1 (zRp hf).2

set_option maxRecDepth 100000 in
set_option maxHeartbeats 4000000 in
theorem fX12_failsIn_n97_ok {l : Launch} {g : gG} {r : Int32} {ν : gM} {K : gKt} (h : gR l g cX12_failsIn RX12 4 (some .int) (gRm 8 180) (some (.int r)) ν K) {z0 : Int32} {μ : gM} (hf : fX12_failsIn_n97 z0 μ = some (r, ν)) : K 97 [none, none, none, none] [.int z0, .ref (g.1 + 267)] μ := by
  unfold fX12_failsIn_n97 at hf
  obtain ⟨x6, μ7, ex6, hf⟩ := zBp_s hf
  refine zm_X12_402 (pc := 97) h gkc_267 ⟨by decide, by decide⟩ (cX12_fromPaper_ok ex6) rfl (Nat.le_of_ble_eq_true rfl) dX12_failsIn_97 rfl ?_
  exact zr_iret (pc := 100) h dX12_failsIn_100 (zRp hf).1 (zRp hf).2

set_option maxRecDepth 100000 in
set_option maxHeartbeats 4000000 in
theorem fX12_failsIn_n83_ok {l : Launch} {g : gG} {r : Int32} {ν : gM} {K : gKt} (h : gR l g cX12_failsIn RX12 4 (some .int) (gRm 8 180) (some (.int r)) ν K) {y3 : Int32} {μ : gM} (hf : fX12_failsIn_n83 y3 μ = some (r, ν)) : K 83 [some (.ref (g.1 + 267)), none, none, some (.int y3)] [] μ := by
  unfold fX12_failsIn_n83 at hf
  refine zr_aload_n (pc := 83) h dX12_failsIn_83 rfl rfl ?_
  refine zr_aload_n (pc := 84) h dX12_failsIn_84 rfl rfl ?_
  refine zf_X12_405 (pc := 85) h gkc_267 dX12_failsIn_85 ?_
  refine zr_iconst (pc := 88) (v := (-1 : Int32)) h dX12_failsIn_88 (by decide) ?_
  have hf := zIf_s hf
  refine zr_icmp_ne (pc := 89) (tgt := 96) h dX12_failsIn_89 rfl (fun b8 => ?_) (fun b8 => ?_)
  · have hf := hf.2 b8
    refine zr_iload_n (pc := 96) h dX12_failsIn_96 rfl rfl ?_
    exact zr_weak h [false, false, false, false] (fX12_failsIn_n97_ok h hf)
  · have hf := hf.1 b8
    refine zr_iconst (pc := 92) (v := (-1 : Int32)) h dX12_failsIn_92 (by decide) ?_
    refine zr_goto (pc := 93) (tgt := 97) h dX12_failsIn_93 rfl ?_
    exact zr_weak h [false, false, false, false] (fX12_failsIn_n97_ok h hf)

set_option maxRecDepth 100000 in
set_option maxHeartbeats 4000000 in
theorem fX12_failsIn_l23_ok {l : Launch} {g : gG} {r : Int32} {ν : gM} {K : gKt} (h : gR l g cX12_failsIn RX12 4 (some .int) (gRm 8 180) (some (.int r)) ν K) : ∀ (n : Nat) (y1 : Int32) (y2 : Int32) (y3 : Int32) (μ : gM), fX12_failsIn_l23 n y1 y2 y3 μ = some (r, ν) → K 23 [some (.ref (g.1 + 267)), some (.int y1), some (.int y2), some (.int y3)] [] μ := by
  intro n
  induction n with
  | zero =>
    intro y1 y2 y3 μ hf
    cases (show (none : Option (Int32 × gM)) = some _ from hf)
  | succ n ih =>
    intro y1 y2 y3 μ hf
    unfold fX12_failsIn_l23 at hf
    refine zr_aload_n (pc := 23) h dX12_failsIn_23 rfl rfl ?_
    refine zf_X12_405 (pc := 24) h gkc_267 dX12_failsIn_24 ?_
    refine zr_iconst (pc := 27) (v := (-1 : Int32)) h dX12_failsIn_27 (by decide) ?_
    have hf := zIf_s hf
    refine zr_icmp_ne (pc := 28) (tgt := 83) h dX12_failsIn_28 rfl (fun b18 => ?_) (fun b18 => ?_)
    · have hf := hf.2 b18
      exact zr_weak h [true, false, false, true] (fX12_failsIn_n83_ok h hf)
    · have hf := hf.1 b18
      refine zr_iload_n (pc := 31) h dX12_failsIn_31 rfl rfl ?_
      refine zr_sipush (pc := 32) (v := (500 : Int32)) h dX12_failsIn_32 (by decide) ?_
      have hf := zIf_s hf
      refine zr_icmp_ge (pc := 35) (tgt := 83) h dX12_failsIn_35 rfl (fun b17 => ?_) (fun b17 => ?_)
      · have hf := hf.1 b17
        exact zr_weak h [true, false, false, true] (fX12_failsIn_n83_ok h hf)
      · have hf := hf.2 b17
        refine zr_aload_n (pc := 38) h dX12_failsIn_38 rfl rfl ?_
        refine zr_iconst (pc := 39) (v := (1 : Int32)) h dX12_failsIn_39 (by decide) ?_
        obtain ⟨x9, ex9, hf⟩ := zBd_s hf
        refine zm_X12_393 (pc := 40) h gkc_267 ⟨by decide, by decide⟩ (cX12_canGo_ok ex9) rfl (Nat.le_of_ble_eq_true rfl) dX12_failsIn_40 rfl ?_
        have hf := zIf_s hf
        refine zr_if_eq (pc := 43) (tgt := 83) h dX12_failsIn_43 rfl (fun b16 => ?_) (fun b16 => ?_)
        · have hf := hf.1 b16
          exact zr_weak h [true, false, false, true] (fX12_failsIn_n83_ok h hf)
        · have hf := hf.2 b16
          refine zr_aload_n (pc := 46) h dX12_failsIn_46 rfl rfl ?_
          obtain ⟨μ10, eμ10, hf⟩ := zBd_s hf
          refine zm_X12_369 (pc := 47) h gkc_267 ⟨by decide, by decide⟩ (cX12_tickGoes_ok eμ10) rfl (Nat.le_of_ble_eq_true rfl) dX12_failsIn_47 rfl ?_
          refine zr_iincx (pc := 50) h dX12_failsIn_50 rfl (by decide) rfl (c := (1 : Int32)) (by decide) (fun x11 ex11 => ?_)
          have hf := zLt_s ex11 hf
          refine zr_aload_n (pc := 53) h dX12_failsIn_53 rfl rfl ?_
          refine zr_aload_n (pc := 54) h dX12_failsIn_54 rfl rfl ?_
          refine zr_iload_n (pc := 55) h dX12_failsIn_55 rfl rfl ?_
          refine zr_aload_n (pc := 56) h dX12_failsIn_56 rfl rfl ?_
          refine zr_iload_n (pc := 57) h dX12_failsIn_57 rfl rfl ?_
          refine zr_iconst (pc := 58) (v := (2 : Int32)) h dX12_failsIn_58 (by decide) ?_
          obtain ⟨x12, ex12, hf⟩ := zBd_s hf
          refine zm_X12_338 (pc := 59) h gkc_267 ⟨by decide, by decide⟩ (cX12_bitsOf_ok ex12) rfl (Nat.le_of_ble_eq_true rfl) dX12_failsIn_59 rfl ?_
          refine zr_aload_n (pc := 62) h dX12_failsIn_62 rfl rfl ?_
          refine zr_iload_n (pc := 63) h dX12_failsIn_63 rfl rfl ?_
          obtain ⟨x13, ex13, hf⟩ := zBd_s hf
          refine zm_X12_376 (pc := 64) h gkc_267 ⟨by decide, by decide⟩ (cX12_partOf_ok ex13) rfl (Nat.le_of_ble_eq_true rfl) dX12_failsIn_64 rfl ?_
          refine zr_iand (pc := 67) h dX12_failsIn_67 ?_
          refine zr_iconst (pc := 68) (v := (1 : Int32)) h dX12_failsIn_68 (by decide) ?_
          refine zr_iload_n (pc := 69) h dX12_failsIn_69 rfl rfl ?_
          refine zr_ishl (pc := 70) h dX12_failsIn_70 ?_
          refine zr_iconst (pc := 71) (v := (-1 : Int32)) h dX12_failsIn_71 (by decide) ?_
          refine zr_ixor (pc := 72) h dX12_failsIn_72 ?_
          refine zr_iand (pc := 73) h dX12_failsIn_73 ?_
          obtain ⟨x14, ex14, hf⟩ := zBd_s hf
          refine zm_X12_379 (pc := 74) h gkc_267 ⟨by decide, by decide⟩ (cX12_strongestOf_ok ex14) rfl (Nat.le_of_ble_eq_true rfl) dX12_failsIn_74 rfl ?_
          refine zp_X12_405 (pc := 77) h gkc_267 dX12_failsIn_77 ?_
          refine zr_mu h (fun μ15 eμ15 => ?_)
          have hf := zLt_s eμ15 hf
          refine zr_goto (pc := 80) (tgt := 23) h dX12_failsIn_80 rfl ?_
          exact zr_weak h [true, true, true, true] (ih _ _ _ _ hf)

set_option maxRecDepth 100000 in
set_option maxHeartbeats 4000000 in
theorem cX12_failsIn_ok {l : Launch} {g : gG} {a1 : Int32} {a2 : Int32} {μ : gM} {r : Int32} {ν : gM} (hf : fX12_failsIn a1 a2 μ = some (r, ν)) : gMet l g yX12_failsIn cX12_failsIn 4 (some .int) 8 180 [.ref (g.1 + 267), .int a1, .int a2] μ (some (.int r)) ν := by
  refine gMet_of (gIni [.ref (g.1 + 267), .int a1, .int a2] ++ List.replicate 1 none) (by decide) (gIni_ok _ _) (Nat.le_of_ble_eq_true rfl) (fun K h => ?_)
  show K 0 [some (.ref (g.1 + 267)), some (.int a1), some (.int a2), none] [] μ
  unfold fX12_failsIn at hf
  refine zr_aload_n (pc := 0) h dX12_failsIn_0 rfl rfl ?_
  obtain ⟨μ1, eμ1, hf⟩ := zBd_s hf
  refine zm_X12_396 (pc := 1) h gkc_267 ⟨by decide, by decide⟩ (cX12_toPaper_ok eμ1) rfl (Nat.le_of_ble_eq_true rfl) dX12_failsIn_1 rfl ?_
  refine zr_aload_n (pc := 4) h dX12_failsIn_4 rfl rfl ?_
  refine zr_iload_n (pc := 5) h dX12_failsIn_5 rfl rfl ?_
  refine zr_iconst (pc := 6) (v := (0 : Int32)) h dX12_failsIn_6 (by decide) ?_
  obtain ⟨x2, μ3, ex2, hf⟩ := zBp_s hf
  refine zm_X12_311 (pc := 7) h gkc_267 ⟨by decide, by decide⟩ (cX12_goesDown_ok ex2) rfl (Nat.le_of_ble_eq_true rfl) dX12_failsIn_7 rfl ?_
  refine zr_istore_n (pc := 10) h dX12_failsIn_10 rfl (by decide) rfl ?_
  refine zr_iconst (pc := 11) (v := (0 : Int32)) h dX12_failsIn_11 (by decide) ?_
  refine zr_istore_n (pc := 12) h dX12_failsIn_12 rfl (by decide) rfl ?_
  refine zr_aload_n (pc := 13) h dX12_failsIn_13 rfl rfl ?_
  refine zr_aload_n (pc := 14) h dX12_failsIn_14 rfl rfl ?_
  refine zr_iload_n (pc := 15) h dX12_failsIn_15 rfl rfl ?_
  refine zr_iload_n (pc := 16) h dX12_failsIn_16 rfl rfl ?_
  obtain ⟨x4, ex4, hf⟩ := zBd_s hf
  refine zm_X12_382 (pc := 17) h gkc_267 ⟨by decide, by decide⟩ (cX12_holderOf_ok ex4) rfl (Nat.le_of_ble_eq_true rfl) dX12_failsIn_17 rfl ?_
  refine zp_X12_405 (pc := 20) h gkc_267 dX12_failsIn_20 ?_
  refine zr_mu h (fun μ5 eμ5 => ?_)
  have hf := zLt_s eμ5 hf
  exact zr_weak h [true, true, true, true] (fX12_failsIn_l23_ok h 100000 _ _ _ _ hf)

set_option maxRecDepth 100000 in
set_option maxHeartbeats 4000000 in
theorem cX12_fails_ok {l : Launch} {g : gG} {a1 : Int32} {a2 : Int32} {a3 : Int32} {μ : gM} {r : Int32} {ν : gM} (hf : fX12_fails a1 a2 a3 μ = some (r, ν)) : gMet l g yX12_fails cX12_fails 5 (some .int) 9 203 [.ref (g.1 + 267), .int a1, .int a2, .int a3] μ (some (.int r)) ν := by
  refine gMet_of (gIni [.ref (g.1 + 267), .int a1, .int a2, .int a3] ++ List.replicate 1 none) (by decide) (gIni_ok _ _) (Nat.le_of_ble_eq_true rfl) (fun K h => ?_)
  show K 0 [some (.ref (g.1 + 267)), some (.int a1), some (.int a2), some (.int a3), none] [] μ
  unfold fX12_fails at hf
  refine zr_aload_n (pc := 0) h dX12_fails_0 rfl rfl ?_
  refine zr_iconst (pc := 1) (v := (0 : Int32)) h dX12_fails_1 (by decide) ?_
  refine zp_X12_46 (pc := 2) h gkc_267 dX12_fails_2 ?_
  refine zr_mu h (fun μ1 eμ1 => ?_)
  have hf := zLt_s eμ1 hf
  refine zr_aload_n (pc := 5) h dX12_fails_5 rfl rfl ?_
  refine zr_iload_n (pc := 6) h dX12_fails_6 rfl rfl ?_
  obtain ⟨x2, ex2, hf⟩ := zBd_s hf
  refine zm_X12_259 (pc := 7) h gkc_267 ⟨by decide, by decide⟩ (cX12_isGroup_ok ex2) rfl (Nat.le_of_ble_eq_true rfl) dX12_fails_7 rfl ?_
  have hf := zIf_s hf
  refine zr_if_eq (pc := 10) (tgt := 39) h dX12_fails_10 rfl (fun b12 => ?_) (fun b12 => ?_)
  · have hf := hf.1 b12
    refine zr_iconst (pc := 39) (v := (-1 : Int32)) h dX12_fails_39 (by decide) ?_
    exact zr_iret (pc := 40) h dX12_fails_40 (zRp hf).1 (zRp hf).2
  · have hf := hf.2 b12
    refine zr_aload_n (pc := 13) h dX12_fails_13 rfl rfl ?_
    refine zr_iload_n (pc := 14) h dX12_fails_14 rfl rfl ?_
    obtain ⟨x3, ex3, hf⟩ := zBd_s hf
    refine zm_X12_262 (pc := 15) h gkc_267 ⟨by decide, by decide⟩ (cX12_isGate_ok ex3) rfl (Nat.le_of_ble_eq_true rfl) dX12_fails_15 rfl ?_
    have hf := zIf_s hf
    refine zr_if_eq (pc := 18) (tgt := 39) h dX12_fails_18 rfl (fun b11 => ?_) (fun b11 => ?_)
    · have hf := hf.1 b11
      refine zr_iconst (pc := 39) (v := (-1 : Int32)) h dX12_fails_39 (by decide) ?_
      exact zr_iret (pc := 40) h dX12_fails_40 (zRp hf).1 (zRp hf).2
    · have hf := hf.2 b11
      refine zr_aload_n (pc := 21) h dX12_fails_21 rfl rfl ?_
      refine zr_iload_n (pc := 22) h dX12_fails_22 rfl rfl ?_
      obtain ⟨x4, ex4, hf⟩ := zBd_s hf
      refine zm_X12_305 (pc := 23) h gkc_267 ⟨by decide, by decide⟩ (cX12_isUp_ok ex4) rfl (Nat.le_of_ble_eq_true rfl) dX12_fails_23 rfl ?_
      have hf := zIf_s hf
      refine zr_if_eq (pc := 26) (tgt := 39) h dX12_fails_26 rfl (fun b10 => ?_) (fun b10 => ?_)
      · have hf := hf.1 b10
        refine zr_iconst (pc := 39) (v := (-1 : Int32)) h dX12_fails_39 (by decide) ?_
        exact zr_iret (pc := 40) h dX12_fails_40 (zRp hf).1 (zRp hf).2
      · have hf := hf.2 b10
        refine zr_iload_n (pc := 29) h dX12_fails_29 rfl rfl ?_
        refine zr_i2l (pc := 30) h dX12_fails_30 ?_
        refine zr_lconst (pc := 31) (v := (0 : Int64)) h dX12_fails_31 (by decide) ?_
        refine zr_lconst (pc := 32) (v := (1 : Int64)) h dX12_fails_32 (by decide) ?_
        obtain ⟨x5, ex5, hf⟩ := zBd_s hf
        refine zm_X12_56 (pc := 33) h ⟨by decide, by decide⟩ (cX12_isIn_ok ex5) rfl (Nat.le_of_ble_eq_true rfl) dX12_fails_33 rfl ?_
        have hf := zIf_s hf
        refine zr_if_ne (pc := 36) (tgt := 41) h dX12_fails_36 rfl (fun b9 => ?_) (fun b9 => ?_)
        · have hf := hf.2 b9
          refine zr_aload_n (pc := 41) h dX12_fails_41 rfl rfl ?_
          refine zr_iload_n (pc := 42) h dX12_fails_42 rfl rfl ?_
          refine zr_iload_n (pc := 43) h dX12_fails_43 rfl rfl ?_
          obtain ⟨x6, μ7, ex6, hf⟩ := zBp_s hf
          refine zm_X12_408 (pc := 44) h gkc_267 ⟨by decide, by decide⟩ (cX12_failsIn_ok ex6) rfl (Nat.le_of_ble_eq_true rfl) dX12_fails_44 rfl ?_
          refine zr_istore (pc := 47) h dX12_fails_47 (by decide) rfl ?_
          refine zr_iload_n (pc := 49) h dX12_fails_49 rfl rfl ?_
          have hf := zIf_s hf
          refine zr_if_ne (pc := 50) (tgt := 58) h dX12_fails_50 rfl (fun b8 => ?_) (fun b8 => ?_)
          · have hf := hf.2 b8
            refine zr_aload_n (pc := 58) h dX12_fails_58 rfl rfl ?_
            refine zf_X12_405 (pc := 59) h gkc_267 dX12_fails_59 ?_
            exact zr_iret (pc := 62) h dX12_fails_62 (zRp hf).1 (zRp hf).2
          · have hf := hf.1 b8
            refine zr_iload (pc := 53) h dX12_fails_53 rfl ?_
            refine zr_goto (pc := 55) (tgt := 62) h dX12_fails_55 rfl ?_
            exact zr_iret (pc := 62) h dX12_fails_62 (zRp hf).1 (zRp hf).2
        · have hf := hf.1 b9
          refine zr_iconst (pc := 39) (v := (-1 : Int32)) h dX12_fails_39 (by decide) ?_
          exact zr_iret (pc := 40) h dX12_fails_40 (zRp hf).1 (zRp hf).2

set_option maxRecDepth 100000 in
set_option maxHeartbeats 4000000 in
theorem fX12_worst_l33_ok {l : Launch} {g : gG} {r : Int32} {ν : gM} {K : gKt} (h : gR l g cX12_worst RX12 7 (some .int) (gRm 9 203) (some (.int r)) ν K) : ∀ (n : Nat) (y1 : Int32) (y2 : Int32) (y3 : Int32) (y4 : Int32) (y5 : Int32) (μ : gM), fX12_worst_l33 n y1 y2 y3 y4 y5 μ = some (r, ν) → K 33 [some (.ref (g.1 + 267)), some (.int y1), some (.int y2), some (.int y3), some (.int y4), some (.int y5), none] [] μ := by
  intro n
  induction n with
  | zero =>
    intro y1 y2 y3 y4 y5 μ hf
    cases (show (none : Option (Int32 × gM)) = some _ from hf)
  | succ n ih =>
    intro y1 y2 y3 y4 y5 μ hf
    unfold fX12_worst_l33 at hf
    refine zr_iload (pc := 33) h dX12_worst_33 rfl ?_
    refine zr_aload_n (pc := 35) h dX12_worst_35 rfl rfl ?_
    obtain ⟨x4, ex4, hf⟩ := zBd_s hf
    refine zm_X12_256 (pc := 36) h gkc_267 ⟨by decide, by decide⟩ (cX12_gates_ok ex4) rfl (Nat.le_of_ble_eq_true rfl) dX12_worst_36 rfl ?_
    have hf := zIf_s hf
    refine zr_icmp_ge (pc := 39) (tgt := 110) h dX12_worst_39 rfl (fun b17 => ?_) (fun b17 => ?_)
    · have hf := hf.1 b17
      refine zr_iload_n (pc := 110) h dX12_worst_110 rfl rfl ?_
      have hf := zIf_s hf
      refine zr_if_ne (pc := 111) (tgt := 118) h dX12_worst_111 rfl (fun b5 => ?_) (fun b5 => ?_)
      · have hf := hf.2 b5
        refine zr_iload (pc := 118) h dX12_worst_118 rfl ?_
        exact zr_iret (pc := 120) h dX12_worst_120 (zRp hf).1 (zRp hf).2
      · have hf := hf.1 b5
        refine zr_iload_n (pc := 114) h dX12_worst_114 rfl rfl ?_
        refine zr_goto (pc := 115) (tgt := 120) h dX12_worst_115 rfl ?_
        exact zr_iret (pc := 120) h dX12_worst_120 (zRp hf).1 (zRp hf).2
    · have hf := hf.2 b17
      refine zr_aload_n (pc := 42) h dX12_worst_42 rfl rfl ?_
      refine zf_X12_27 (pc := 43) h gkc_267 dX12_worst_43 ?_
      refine zr_bipush (pc := 46) (v := (40 : Int32)) h dX12_worst_46 (by decide) ?_
      refine zr_iload_n (pc := 48) h dX12_worst_48 rfl rfl ?_
      refine zr_iload (pc := 49) h dX12_worst_49 rfl ?_
      obtain ⟨x6, ex6, hf⟩ := zBd_s hf
      refine zm_X12_190 (pc := 51) h ⟨by decide, by decide⟩ (cX12_of_ok ex6) rfl (Nat.le_of_ble_eq_true rfl) dX12_worst_51 rfl ?_
      refine zr_iadd (pc := 54) h dX12_worst_54 ?_
      obtain ⟨q7, hf⟩ := zCk_s hf
      refine zr_iald (pc := 55) h gkc_272 q7 rfl dX12_worst_55 ?_
      have hf := zIf_s hf
      refine zr_if_ne (pc := 56) (tgt := 62) h dX12_worst_56 rfl (fun b16 => ?_) (fun b16 => ?_)
      · have hf := hf.2 b16
        refine zr_aload_n (pc := 62) h dX12_worst_62 rfl rfl ?_
        refine zr_iload_n (pc := 63) h dX12_worst_63 rfl rfl ?_
        refine zr_iload (pc := 64) h dX12_worst_64 rfl ?_
        obtain ⟨x8, μ9, ex8, hf⟩ := zBp_s hf
        refine zm_X12_408 (pc := 66) h gkc_267 ⟨by decide, by decide⟩ (cX12_failsIn_ok ex8) rfl (Nat.le_of_ble_eq_true rfl) dX12_worst_66 rfl ?_
        refine zr_istore (pc := 69) h dX12_worst_69 (by decide) rfl ?_
        refine zr_iload (pc := 71) h dX12_worst_71 rfl ?_
        refine zr_iconst (pc := 73) (v := (-1 : Int32)) h dX12_worst_73 (by decide) ?_
        have hf := zIf_s hf
        refine zr_icmp_ne (pc := 74) (tgt := 88) h dX12_worst_74 rfl (fun b14 => ?_) (fun b14 => ?_)
        · have hf := hf.2 b14
          refine zr_iload (pc := 88) h dX12_worst_88 rfl ?_
          refine zr_iload_n (pc := 90) h dX12_worst_90 rfl rfl ?_
          have hf := zIf_s hf
          refine zr_icmp_gt (pc := 91) (tgt := 97) h dX12_worst_91 rfl (fun b12 => ?_) (fun b12 => ?_)
          · have hf := hf.1 b12
            refine zr_iload (pc := 97) h dX12_worst_97 rfl ?_
            refine zr_istore_n (pc := 99) h dX12_worst_99 rfl (by decide) rfl ?_
            refine zr_iload (pc := 100) h dX12_worst_100 rfl ?_
            refine zr_istore (pc := 102) h dX12_worst_102 (by decide) rfl ?_
            refine zr_iincx (pc := 104) h dX12_worst_104 rfl (by decide) rfl (c := (1 : Int32)) (by decide) (fun x10 ex10 => ?_)
            have hf := zLt_s ex10 hf
            refine zr_goto (pc := 107) (tgt := 33) h dX12_worst_107 rfl ?_
            exact zr_weak h [true, true, true, true, true, true, false] (ih _ _ _ _ _ _ hf)
          · have hf := hf.2 b12
            refine zr_goto (pc := 94) (tgt := 104) h dX12_worst_94 rfl ?_
            refine zr_iincx (pc := 104) h dX12_worst_104 rfl (by decide) rfl (c := (1 : Int32)) (by decide) (fun x11 ex11 => ?_)
            have hf := zLt_s ex11 hf
            refine zr_goto (pc := 107) (tgt := 33) h dX12_worst_107 rfl ?_
            exact zr_weak h [true, true, true, true, true, true, false] (ih _ _ _ _ _ _ hf)
        · have hf := hf.1 b14
          refine zr_iload_n (pc := 77) h dX12_worst_77 rfl rfl ?_
          have hf := zIf_s hf
          refine zr_if_ne (pc := 78) (tgt := 85) h dX12_worst_78 rfl (fun b13 => ?_) (fun b13 => ?_)
          · have hf := hf.2 b13
            refine zr_iload (pc := 85) h dX12_worst_85 rfl ?_
            exact zr_iret (pc := 87) h dX12_worst_87 (zRp hf).1 (zRp hf).2
          · have hf := hf.1 b13
            refine zr_iconst (pc := 81) (v := (-1 : Int32)) h dX12_worst_81 (by decide) ?_
            refine zr_goto (pc := 82) (tgt := 87) h dX12_worst_82 rfl ?_
            exact zr_iret (pc := 87) h dX12_worst_87 (zRp hf).1 (zRp hf).2
      · have hf := hf.1 b16
        refine zr_goto (pc := 59) (tgt := 104) h dX12_worst_59 rfl ?_
        refine zr_iincx (pc := 104) h dX12_worst_104 rfl (by decide) rfl (c := (1 : Int32)) (by decide) (fun x15 ex15 => ?_)
        have hf := zLt_s ex15 hf
        refine zr_goto (pc := 107) (tgt := 33) h dX12_worst_107 rfl ?_
        exact zr_weak h [true, true, true, true, true, true, false] (ih _ _ _ _ _ _ hf)

set_option maxRecDepth 100000 in
set_option maxHeartbeats 4000000 in
theorem cX12_worst_ok {l : Launch} {g : gG} {a1 : Int32} {a2 : Int32} {μ : gM} {r : Int32} {ν : gM} (hf : fX12_worst a1 a2 μ = some (r, ν)) : gMet l g yX12_worst cX12_worst 7 (some .int) 9 203 [.ref (g.1 + 267), .int a1, .int a2] μ (some (.int r)) ν := by
  refine gMet_of (gIni [.ref (g.1 + 267), .int a1, .int a2] ++ List.replicate 4 none) (by decide) (gIni_ok _ _) (Nat.le_of_ble_eq_true rfl) (fun K h => ?_)
  show K 0 [some (.ref (g.1 + 267)), some (.int a1), some (.int a2), none, none, none, none] [] μ
  unfold fX12_worst at hf
  refine zr_aload_n (pc := 0) h dX12_worst_0 rfl rfl ?_
  refine zr_iconst (pc := 1) (v := (0 : Int32)) h dX12_worst_1 (by decide) ?_
  refine zp_X12_46 (pc := 2) h gkc_267 dX12_worst_2 ?_
  refine zr_mu h (fun μ1 eμ1 => ?_)
  have hf := zLt_s eμ1 hf
  refine zr_aload_n (pc := 5) h dX12_worst_5 rfl rfl ?_
  refine zr_iload_n (pc := 6) h dX12_worst_6 rfl rfl ?_
  obtain ⟨x2, ex2, hf⟩ := zBd_s hf
  refine zm_X12_259 (pc := 7) h gkc_267 ⟨by decide, by decide⟩ (cX12_isGroup_ok ex2) rfl (Nat.le_of_ble_eq_true rfl) dX12_worst_7 rfl ?_
  have hf := zIf_s hf
  refine zr_if_eq (pc := 10) (tgt := 23) h dX12_worst_10 rfl (fun b19 => ?_) (fun b19 => ?_)
  · have hf := hf.1 b19
    refine zr_iconst (pc := 23) (v := (-1 : Int32)) h dX12_worst_23 (by decide) ?_
    exact zr_iret (pc := 24) h dX12_worst_24 (zRp hf).1 (zRp hf).2
  · have hf := hf.2 b19
    refine zr_iload_n (pc := 13) h dX12_worst_13 rfl rfl ?_
    refine zr_i2l (pc := 14) h dX12_worst_14 ?_
    refine zr_lconst (pc := 15) (v := (0 : Int64)) h dX12_worst_15 (by decide) ?_
    refine zr_lconst (pc := 16) (v := (1 : Int64)) h dX12_worst_16 (by decide) ?_
    obtain ⟨x3, ex3, hf⟩ := zBd_s hf
    refine zm_X12_56 (pc := 17) h ⟨by decide, by decide⟩ (cX12_isIn_ok ex3) rfl (Nat.le_of_ble_eq_true rfl) dX12_worst_17 rfl ?_
    have hf := zIf_s hf
    refine zr_if_ne (pc := 20) (tgt := 25) h dX12_worst_20 rfl (fun b18 => ?_) (fun b18 => ?_)
    · have hf := hf.2 b18
      refine zr_iconst (pc := 25) (v := (-1 : Int32)) h dX12_worst_25 (by decide) ?_
      refine zr_istore_n (pc := 26) h dX12_worst_26 rfl (by decide) rfl ?_
      refine zr_iconst (pc := 27) (v := (-1 : Int32)) h dX12_worst_27 (by decide) ?_
      refine zr_istore (pc := 28) h dX12_worst_28 (by decide) rfl ?_
      refine zr_iconst (pc := 30) (v := (0 : Int32)) h dX12_worst_30 (by decide) ?_
      refine zr_istore (pc := 31) h dX12_worst_31 (by decide) rfl ?_
      exact zr_weak h [true, true, true, true, true, true, false] (fX12_worst_l33_ok h 100000 _ _ _ _ _ _ hf)
    · have hf := hf.1 b18
      refine zr_iconst (pc := 23) (v := (-1 : Int32)) h dX12_worst_23 (by decide) ?_
      exact zr_iret (pc := 24) h dX12_worst_24 (zRp hf).1 (zRp hf).2

set_option maxRecDepth 100000 in
set_option maxHeartbeats 4000000 in
theorem fX12_settles_n62_ok {l : Launch} {g : gG} {k32 : Int32 → Int32 → gM → Option (Int32 × gM)} {r : Int32} {ν : gM} {K : gKt} (h : gR l g cX12_settles RX12 4 (some .int) (gRm 8 180) (some (.int r)) ν K) (hk32 : ∀ (y1 : Int32) (y2 : Int32) (ν1 : gM), k32 y1 y2 ν1 = some (r, ν) → K 32 [some (.ref (g.1 + 267)), some (.int y1), some (.int y2), none] [] ν1) {y1 : Int32} {y2 : Int32} {μ : gM} (hf : fX12_settles_n62 k32 y1 y2 μ = some (r, ν)) : K 62 [some (.ref (g.1 + 267)), some (.int y1), some (.int y2), none] [] μ := by
  unfold fX12_settles_n62 at hf
  refine zr_iload_n (pc := 62) h dX12_settles_62 rfl rfl ?_
  refine zr_sipush (pc := 63) (v := (500 : Int32)) h dX12_settles_63 (by decide) ?_
  have hf := zIf_s hf
  refine zr_icmp_le (pc := 66) (tgt := 75) h dX12_settles_66 rfl (fun b11 => ?_) (fun b11 => ?_)
  · have hf := hf.1 b11
    refine zr_goto (pc := 75) (tgt := 32) h dX12_settles_75 rfl ?_
    exact zr_weak h [true, true, true, false] (hk32 _ _ _ hf)
  · have hf := hf.2 b11
    refine zr_aload_n (pc := 69) h dX12_settles_69 rfl rfl ?_
    refine zr_iconst (pc := 70) (v := (-1 : Int32)) h dX12_settles_70 (by decide) ?_
    obtain ⟨x9, μ10, ex9, hf⟩ := zBp_s hf
    refine zm_X12_402 (pc := 71) h gkc_267 ⟨by decide, by decide⟩ (cX12_fromPaper_ok ex9) rfl (Nat.le_of_ble_eq_true rfl) dX12_settles_71 rfl ?_
    exact zr_iret (pc := 74) h dX12_settles_74 (zRp hf).1 (zRp hf).2

set_option maxRecDepth 100000 in
set_option maxHeartbeats 4000000 in
theorem fX12_settles_l32_ok {l : Launch} {g : gG} {r : Int32} {ν : gM} {K : gKt} (h : gR l g cX12_settles RX12 4 (some .int) (gRm 8 180) (some (.int r)) ν K) : ∀ (n : Nat) (y1 : Int32) (y2 : Int32) (μ : gM), fX12_settles_l32 n y1 y2 μ = some (r, ν) → K 32 [some (.ref (g.1 + 267)), some (.int y1), some (.int y2), none] [] μ := by
  intro n
  induction n with
  | zero =>
    intro y1 y2 μ hf
    cases (show (none : Option (Int32 × gM)) = some _ from hf)
  | succ n ih =>
    intro y1 y2 μ hf
    unfold fX12_settles_l32 at hf
    refine zr_iload_n (pc := 32) h dX12_settles_32 rfl rfl ?_
    refine zr_iload_n (pc := 33) h dX12_settles_33 rfl rfl ?_
    refine zr_bipush (pc := 34) (v := (100 : Int32)) h dX12_settles_34 (by decide) ?_
    refine zr_iadd (pc := 36) h dX12_settles_36 ?_
    have hf := zIf_s hf
    refine zr_icmp_ge (pc := 37) (tgt := 78) h dX12_settles_37 rfl (fun b13 => ?_) (fun b13 => ?_)
    · have hf := hf.1 b13
      refine zr_aload_n (pc := 78) h dX12_settles_78 rfl rfl ?_
      refine zr_iload_n (pc := 79) h dX12_settles_79 rfl rfl ?_
      obtain ⟨x4, μ5, ex4, hf⟩ := zBp_s hf
      refine zm_X12_402 (pc := 80) h gkc_267 ⟨by decide, by decide⟩ (cX12_fromPaper_ok ex4) rfl (Nat.le_of_ble_eq_true rfl) dX12_settles_80 rfl ?_
      exact zr_iret (pc := 83) h dX12_settles_83 (zRp hf).1 (zRp hf).2
    · have hf := hf.2 b13
      refine zr_aload_n (pc := 40) h dX12_settles_40 rfl rfl ?_
      refine zf_X12_280 (pc := 41) h gkc_267 dX12_settles_41 ?_
      refine zr_topi h (fun x6 ex6 => ?_)
      have hf := zLt_s ex6 hf
      refine zr_istore_n (pc := 44) h dX12_settles_44 rfl (by decide) rfl ?_
      refine zr_aload_n (pc := 45) h dX12_settles_45 rfl rfl ?_
      obtain ⟨μ7, eμ7, hf⟩ := zBd_s hf
      refine zm_X12_369 (pc := 46) h gkc_267 ⟨by decide, by decide⟩ (cX12_tickGoes_ok eμ7) rfl (Nat.le_of_ble_eq_true rfl) dX12_settles_46 rfl ?_
      refine zr_iincx (pc := 49) h dX12_settles_49 rfl (by decide) rfl (c := (1 : Int32)) (by decide) (fun x8 ex8 => ?_)
      have hf := zLt_s ex8 hf
      refine zr_aload_n (pc := 52) h dX12_settles_52 rfl rfl ?_
      refine zf_X12_280 (pc := 53) h gkc_267 dX12_settles_53 ?_
      refine zr_iload_n (pc := 56) h dX12_settles_56 rfl rfl ?_
      have hf := zIf_s hf
      refine zr_icmp_le (pc := 57) (tgt := 62) h dX12_settles_57 rfl (fun b12 => ?_) (fun b12 => ?_)
      · have hf := hf.1 b12
        exact zr_weak h [true, true, true, false] (fX12_settles_n62_ok h ih hf)
      · have hf := hf.2 b12
        refine zr_iload_n (pc := 60) h dX12_settles_60 rfl rfl ?_
        refine zr_istore_n (pc := 61) h dX12_settles_61 rfl (by decide) rfl ?_
        exact zr_weak h [true, true, true, false] (fX12_settles_n62_ok h ih hf)

set_option maxRecDepth 100000 in
set_option maxHeartbeats 4000000 in
theorem cX12_settles_ok {l : Launch} {g : gG} {μ : gM} {r : Int32} {ν : gM} (hf : fX12_settles μ = some (r, ν)) : gMet l g yX12_settles cX12_settles 4 (some .int) 8 180 [.ref (g.1 + 267)] μ (some (.int r)) ν := by
  refine gMet_of (gIni [.ref (g.1 + 267)] ++ List.replicate 3 none) (by decide) (gIni_ok _ _) (Nat.le_of_ble_eq_true rfl) (fun K h => ?_)
  show K 0 [some (.ref (g.1 + 267)), none, none, none] [] μ
  unfold fX12_settles at hf
  refine zr_aload_n (pc := 0) h dX12_settles_0 rfl rfl ?_
  refine zr_iconst (pc := 1) (v := (0 : Int32)) h dX12_settles_1 (by decide) ?_
  refine zp_X12_46 (pc := 2) h gkc_267 dX12_settles_2 ?_
  refine zr_mu h (fun μ1 eμ1 => ?_)
  have hf := zLt_s eμ1 hf
  refine zr_aload_n (pc := 5) h dX12_settles_5 rfl rfl ?_
  refine zf_X12_224 (pc := 6) h gkc_267 dX12_settles_6 ?_
  have hf := zIf_s hf
  refine zr_if_eq (pc := 9) (tgt := 22) h dX12_settles_9 rfl (fun b15 => ?_) (fun b15 => ?_)
  · have hf := hf.1 b15
    refine zr_iconst (pc := 22) (v := (-1 : Int32)) h dX12_settles_22 (by decide) ?_
    exact zr_iret (pc := 23) h dX12_settles_23 (zRp hf).1 (zRp hf).2
  · have hf := hf.2 b15
    refine zr_aload_n (pc := 12) h dX12_settles_12 rfl rfl ?_
    refine zr_sipush (pc := 13) (v := (600 : Int32)) h dX12_settles_13 (by decide) ?_
    obtain ⟨x2, ex2, hf⟩ := zBd_s hf
    refine zm_X12_393 (pc := 16) h gkc_267 ⟨by decide, by decide⟩ (cX12_canGo_ok ex2) rfl (Nat.le_of_ble_eq_true rfl) dX12_settles_16 rfl ?_
    have hf := zIf_s hf
    refine zr_if_ne (pc := 19) (tgt := 24) h dX12_settles_19 rfl (fun b14 => ?_) (fun b14 => ?_)
    · have hf := hf.2 b14
      refine zr_aload_n (pc := 24) h dX12_settles_24 rfl rfl ?_
      obtain ⟨μ3, eμ3, hf⟩ := zBd_s hf
      refine zm_X12_396 (pc := 25) h gkc_267 ⟨by decide, by decide⟩ (cX12_toPaper_ok eμ3) rfl (Nat.le_of_ble_eq_true rfl) dX12_settles_25 rfl ?_
      refine zr_iconst (pc := 28) (v := (0 : Int32)) h dX12_settles_28 (by decide) ?_
      refine zr_istore_n (pc := 29) h dX12_settles_29 rfl (by decide) rfl ?_
      refine zr_iconst (pc := 30) (v := (0 : Int32)) h dX12_settles_30 (by decide) ?_
      refine zr_istore_n (pc := 31) h dX12_settles_31 rfl (by decide) rfl ?_
      exact zr_weak h [true, true, true, false] (fX12_settles_l32_ok h 100000 _ _ _ hf)
    · have hf := hf.1 b14
      refine zr_iconst (pc := 22) (v := (-1 : Int32)) h dX12_settles_22 (by decide) ?_
      exact zr_iret (pc := 23) h dX12_settles_23 (zRp hf).1 (zRp hf).2

set_option maxRecDepth 100000 in
set_option maxHeartbeats 4000000 in
theorem fX12_least_l32_ok {l : Launch} {g : gG} {r : Int32} {ν : gM} {K : gKt} (h : gR l g cX12_least RX12 4 (some .int) (gRm 9 202) (some (.int r)) ν K) : ∀ (n : Nat) (y1 : Int32) (y2 : Int32) (y3 : Int32) (μ : gM), fX12_least_l32 n y1 y2 y3 μ = some (r, ν) → K 32 [some (.ref (g.1 + 267)), some (.int y1), some (.int y2), some (.int y3)] [] μ := by
  intro n
  induction n with
  | zero =>
    intro y1 y2 y3 μ hf
    cases (show (none : Option (Int32 × gM)) = some _ from hf)
  | succ n ih =>
    intro y1 y2 y3 μ hf
    unfold fX12_least_l32 at hf
    refine zr_iload_n (pc := 32) h dX12_least_32 rfl rfl ?_
    refine zr_sipush (pc := 33) (v := (255 : Int32)) h dX12_least_33 (by decide) ?_
    have hf := zIf_s hf
    refine zr_icmp_ge (pc := 36) (tgt := 87) h dX12_least_36 rfl (fun b17 => ?_) (fun b17 => ?_)
    · have hf := hf.1 b17
      refine zr_aload_n (pc := 87) h dX12_least_87 rfl rfl ?_
      refine zr_iconst (pc := 88) (v := (-1 : Int32)) h dX12_least_88 (by decide) ?_
      obtain ⟨x5, μ6, ex5, hf⟩ := zBp_s hf
      refine zm_X12_402 (pc := 89) h gkc_267 ⟨by decide, by decide⟩ (cX12_fromPaper_ok ex5) rfl (Nat.le_of_ble_eq_true rfl) dX12_least_89 rfl ?_
      exact zr_iret (pc := 92) h dX12_least_92 (zRp hf).1 (zRp hf).2
    · have hf := hf.2 b17
      refine zr_aload_n (pc := 39) h dX12_least_39 rfl rfl ?_
      refine zr_bipush (pc := 40) (v := (14 : Int32)) h dX12_least_40 (by decide) ?_
      obtain ⟨μ7, eμ7, hf⟩ := zBd_s hf
      refine zm_X12_390 (pc := 42) h gkc_267 ⟨by decide, by decide⟩ (cX12_takesFrom_ok eμ7) rfl (Nat.le_of_ble_eq_true rfl) dX12_least_42 rfl ?_
      refine zr_aload_n (pc := 45) h dX12_least_45 rfl rfl ?_
      refine zf_X12_27 (pc := 46) h gkc_267 dX12_least_46 ?_
      refine zr_bipush (pc := 49) (v := (10 : Int32)) h dX12_least_49 (by decide) ?_
      refine zr_iload_n (pc := 51) h dX12_least_51 rfl rfl ?_
      refine zr_iload_n (pc := 52) h dX12_least_52 rfl rfl ?_
      obtain ⟨x8, ex8, hf⟩ := zBd_s hf
      refine zm_X12_190 (pc := 53) h ⟨by decide, by decide⟩ (cX12_of_ok ex8) rfl (Nat.le_of_ble_eq_true rfl) dX12_least_53 rfl ?_
      refine zr_iadd (pc := 56) h dX12_least_56 ?_
      refine zr_iload_n (pc := 57) h dX12_least_57 rfl rfl ?_
      obtain ⟨q9, hf⟩ := zCk_s hf
      refine zr_iast (pc := 58) h gkc_272 q9 rfl dX12_least_58 ?_
      refine zr_mu h (fun μ10 eμ10 => ?_)
      have hf := zLt_s eμ10 hf
      refine zr_aload_n (pc := 59) h dX12_least_59 rfl rfl ?_
      refine zr_sipush (pc := 60) (v := (300 : Int32)) h dX12_least_60 (by decide) ?_
      obtain ⟨μ11, eμ11, hf⟩ := zBd_s hf
      refine zm_X12_399 (pc := 63) h gkc_267 ⟨by decide, by decide⟩ (cX12_goes_ok eμ11) rfl (Nat.le_of_ble_eq_true rfl) dX12_least_63 rfl ?_
      refine zr_aload_n (pc := 66) h dX12_least_66 rfl rfl ?_
      refine zr_iload_n (pc := 67) h dX12_least_67 rfl rfl ?_
      refine zr_iload_n (pc := 68) h dX12_least_68 rfl rfl ?_
      obtain ⟨x12, ex12, hf⟩ := zBd_s hf
      refine zm_X12_299 (pc := 69) h gkc_267 ⟨by decide, by decide⟩ (cX12_doesHold_ok ex12) rfl (Nat.le_of_ble_eq_true rfl) dX12_least_69 rfl ?_
      have hf := zIf_s hf
      refine zr_if_eq (pc := 72) (tgt := 81) h dX12_least_72 rfl (fun b16 => ?_) (fun b16 => ?_)
      · have hf := hf.1 b16
        refine zr_iincx (pc := 81) h dX12_least_81 rfl (by decide) rfl (c := (1 : Int32)) (by decide) (fun x13 ex13 => ?_)
        have hf := zLt_s ex13 hf
        refine zr_goto (pc := 84) (tgt := 32) h dX12_least_84 rfl ?_
        exact zr_weak h [true, true, true, true] (ih _ _ _ _ hf)
      · have hf := hf.2 b16
        refine zr_aload_n (pc := 75) h dX12_least_75 rfl rfl ?_
        refine zr_iload_n (pc := 76) h dX12_least_76 rfl rfl ?_
        obtain ⟨x14, μ15, ex14, hf⟩ := zBp_s hf
        refine zm_X12_402 (pc := 77) h gkc_267 ⟨by decide, by decide⟩ (cX12_fromPaper_ok ex14) rfl (Nat.le_of_ble_eq_true rfl) dX12_least_77 rfl ?_
        exact zr_iret (pc := 80) h dX12_least_80 (zRp hf).1 (zRp hf).2

set_option maxRecDepth 100000 in
set_option maxHeartbeats 4000000 in
theorem cX12_least_ok {l : Launch} {g : gG} {a1 : Int32} {a2 : Int32} {μ : gM} {r : Int32} {ν : gM} (hf : fX12_least a1 a2 μ = some (r, ν)) : gMet l g yX12_least cX12_least 4 (some .int) 9 202 [.ref (g.1 + 267), .int a1, .int a2] μ (some (.int r)) ν := by
  refine gMet_of (gIni [.ref (g.1 + 267), .int a1, .int a2] ++ List.replicate 1 none) (by decide) (gIni_ok _ _) (Nat.le_of_ble_eq_true rfl) (fun K h => ?_)
  show K 0 [some (.ref (g.1 + 267)), some (.int a1), some (.int a2), none] [] μ
  unfold fX12_least at hf
  refine zr_aload_n (pc := 0) h dX12_least_0 rfl rfl ?_
  refine zr_iconst (pc := 1) (v := (0 : Int32)) h dX12_least_1 (by decide) ?_
  refine zp_X12_46 (pc := 2) h gkc_267 dX12_least_2 ?_
  refine zr_mu h (fun μ1 eμ1 => ?_)
  have hf := zLt_s eμ1 hf
  refine zr_aload_n (pc := 5) h dX12_least_5 rfl rfl ?_
  refine zr_iload_n (pc := 6) h dX12_least_6 rfl rfl ?_
  refine zr_iload_n (pc := 7) h dX12_least_7 rfl rfl ?_
  obtain ⟨x2, ex2, hf⟩ := zBd_s hf
  refine zm_X12_287 (pc := 8) h gkc_267 ⟨by decide, by decide⟩ (cX12_isMember_ok ex2) rfl (Nat.le_of_ble_eq_true rfl) dX12_least_8 rfl ?_
  have hf := zIf_s hf
  refine zr_if_eq (pc := 11) (tgt := 24) h dX12_least_11 rfl (fun b19 => ?_) (fun b19 => ?_)
  · have hf := hf.1 b19
    refine zr_iconst (pc := 24) (v := (-1 : Int32)) h dX12_least_24 (by decide) ?_
    exact zr_iret (pc := 25) h dX12_least_25 (zRp hf).1 (zRp hf).2
  · have hf := hf.2 b19
    refine zr_aload_n (pc := 14) h dX12_least_14 rfl rfl ?_
    refine zr_sipush (pc := 15) (v := (300 : Int32)) h dX12_least_15 (by decide) ?_
    obtain ⟨x3, ex3, hf⟩ := zBd_s hf
    refine zm_X12_393 (pc := 18) h gkc_267 ⟨by decide, by decide⟩ (cX12_canGo_ok ex3) rfl (Nat.le_of_ble_eq_true rfl) dX12_least_18 rfl ?_
    have hf := zIf_s hf
    refine zr_if_ne (pc := 21) (tgt := 26) h dX12_least_21 rfl (fun b18 => ?_) (fun b18 => ?_)
    · have hf := hf.2 b18
      refine zr_aload_n (pc := 26) h dX12_least_26 rfl rfl ?_
      obtain ⟨μ4, eμ4, hf⟩ := zBd_s hf
      refine zm_X12_396 (pc := 27) h gkc_267 ⟨by decide, by decide⟩ (cX12_toPaper_ok eμ4) rfl (Nat.le_of_ble_eq_true rfl) dX12_least_27 rfl ?_
      refine zr_iconst (pc := 30) (v := (1 : Int32)) h dX12_least_30 (by decide) ?_
      refine zr_istore_n (pc := 31) h dX12_least_31 rfl (by decide) rfl ?_
      exact zr_weak h [true, true, true, true] (fX12_least_l32_ok h 100000 _ _ _ _ hf)
    · have hf := hf.1 b18
      refine zr_iconst (pc := 24) (v := (-1 : Int32)) h dX12_least_24 (by decide) ?_
      exact zr_iret (pc := 25) h dX12_least_25 (zRp hf).1 (zRp hf).2

set_option maxRecDepth 100000 in
set_option maxHeartbeats 4000000 in
theorem cX12_flaps_ok {l : Launch} {g : gG} {a1 : Int32} {a2 : Int32} {μ : gM} {r : Int32} {ν : gM} (hf : fX12_flaps a1 a2 μ = some (r, ν)) : gMet l g yX12_flaps cX12_flaps 4 (some .int) 9 202 [.ref (g.1 + 267), .int a1, .int a2] μ (some (.int r)) ν := by
  refine gMet_of (gIni [.ref (g.1 + 267), .int a1, .int a2] ++ List.replicate 1 none) (by decide) (gIni_ok _ _) (Nat.le_of_ble_eq_true rfl) (fun K h => ?_)
  show K 0 [some (.ref (g.1 + 267)), some (.int a1), some (.int a2), none] [] μ
  unfold fX12_flaps at hf
  refine zr_aload_n (pc := 0) h dX12_flaps_0 rfl rfl ?_
  refine zr_iconst (pc := 1) (v := (0 : Int32)) h dX12_flaps_1 (by decide) ?_
  refine zp_X12_46 (pc := 2) h gkc_267 dX12_flaps_2 ?_
  refine zr_mu h (fun μ1 eμ1 => ?_)
  have hf := zLt_s eμ1 hf
  refine zr_aload_n (pc := 5) h dX12_flaps_5 rfl rfl ?_
  refine zr_iload_n (pc := 6) h dX12_flaps_6 rfl rfl ?_
  obtain ⟨x2, ex2, hf⟩ := zBd_s hf
  refine zm_X12_259 (pc := 7) h gkc_267 ⟨by decide, by decide⟩ (cX12_isGroup_ok ex2) rfl (Nat.le_of_ble_eq_true rfl) dX12_flaps_7 rfl ?_
  have hf := zIf_s hf
  refine zr_if_eq (pc := 10) (tgt := 33) h dX12_flaps_10 rfl (fun b14 => ?_) (fun b14 => ?_)
  · have hf := hf.1 b14
    refine zr_iconst (pc := 33) (v := (-1 : Int32)) h dX12_flaps_33 (by decide) ?_
    exact zr_iret (pc := 34) h dX12_flaps_34 (zRp hf).1 (zRp hf).2
  · have hf := hf.2 b14
    refine zr_iload_n (pc := 13) h dX12_flaps_13 rfl rfl ?_
    refine zr_i2l (pc := 14) h dX12_flaps_14 ?_
    refine zr_lconst (pc := 15) (v := (1 : Int64)) h dX12_flaps_15 (by decide) ?_
    refine zr_ldc2 (pc := 16) h zw_1739 dX12_flaps_16 ?_
    obtain ⟨x3, ex3, hf⟩ := zBd_s hf
    refine zm_X12_56 (pc := 19) h ⟨by decide, by decide⟩ (cX12_isIn_ok ex3) rfl (Nat.le_of_ble_eq_true rfl) dX12_flaps_19 rfl ?_
    have hf := zIf_s hf
    refine zr_if_eq (pc := 22) (tgt := 33) h dX12_flaps_22 rfl (fun b13 => ?_) (fun b13 => ?_)
    · have hf := hf.1 b13
      refine zr_iconst (pc := 33) (v := (-1 : Int32)) h dX12_flaps_33 (by decide) ?_
      exact zr_iret (pc := 34) h dX12_flaps_34 (zRp hf).1 (zRp hf).2
    · have hf := hf.2 b13
      refine zr_aload_n (pc := 25) h dX12_flaps_25 rfl rfl ?_
      refine zr_iload_n (pc := 26) h dX12_flaps_26 rfl rfl ?_
      obtain ⟨x4, ex4, hf⟩ := zBd_s hf
      refine zm_X12_393 (pc := 27) h gkc_267 ⟨by decide, by decide⟩ (cX12_canGo_ok ex4) rfl (Nat.le_of_ble_eq_true rfl) dX12_flaps_27 rfl ?_
      have hf := zIf_s hf
      refine zr_if_ne (pc := 30) (tgt := 35) h dX12_flaps_30 rfl (fun b12 => ?_) (fun b12 => ?_)
      · have hf := hf.2 b12
        refine zr_aload_n (pc := 35) h dX12_flaps_35 rfl rfl ?_
        obtain ⟨μ5, eμ5, hf⟩ := zBd_s hf
        refine zm_X12_396 (pc := 36) h gkc_267 ⟨by decide, by decide⟩ (cX12_toPaper_ok eμ5) rfl (Nat.le_of_ble_eq_true rfl) dX12_flaps_36 rfl ?_
        refine zr_aload_n (pc := 39) h dX12_flaps_39 rfl rfl ?_
        refine zf_X12_27 (pc := 40) h gkc_267 dX12_flaps_40 ?_
        refine zr_sipush (pc := 43) (v := (140 : Int32)) h dX12_flaps_43 (by decide) ?_
        refine zr_iload_n (pc := 46) h dX12_flaps_46 rfl rfl ?_
        refine zr_iadd (pc := 47) h dX12_flaps_47 ?_
        obtain ⟨q6, hf⟩ := zCk_s hf
        refine zr_iald (pc := 48) h gkc_272 q6 rfl dX12_flaps_48 ?_
        refine zr_topi h (fun x7 ex7 => ?_)
        have hf := zLt_s ex7 hf
        refine zr_istore_n (pc := 49) h dX12_flaps_49 rfl (by decide) rfl ?_
        refine zr_aload_n (pc := 50) h dX12_flaps_50 rfl rfl ?_
        refine zr_iload_n (pc := 51) h dX12_flaps_51 rfl rfl ?_
        obtain ⟨μ8, eμ8, hf⟩ := zBd_s hf
        refine zm_X12_399 (pc := 52) h gkc_267 ⟨by decide, by decide⟩ (cX12_goes_ok eμ8) rfl (Nat.le_of_ble_eq_true rfl) dX12_flaps_52 rfl ?_
        refine zr_aload_n (pc := 55) h dX12_flaps_55 rfl rfl ?_
        refine zr_aload_n (pc := 56) h dX12_flaps_56 rfl rfl ?_
        refine zf_X12_27 (pc := 57) h gkc_267 dX12_flaps_57 ?_
        refine zr_sipush (pc := 60) (v := (140 : Int32)) h dX12_flaps_60 (by decide) ?_
        refine zr_iload_n (pc := 63) h dX12_flaps_63 rfl rfl ?_
        refine zr_iadd (pc := 64) h dX12_flaps_64 ?_
        obtain ⟨q9, hf⟩ := zCk_s hf
        refine zr_iald (pc := 65) h gkc_272 q9 rfl dX12_flaps_65 ?_
        refine zr_iload_n (pc := 66) h dX12_flaps_66 rfl rfl ?_
        refine zr_isub (pc := 67) h dX12_flaps_67 ?_
        obtain ⟨x10, μ11, ex10, hf⟩ := zBp_s hf
        refine zm_X12_402 (pc := 68) h gkc_267 ⟨by decide, by decide⟩ (cX12_fromPaper_ok ex10) rfl (Nat.le_of_ble_eq_true rfl) dX12_flaps_68 rfl ?_
        exact zr_iret (pc := 71) h dX12_flaps_71 (zRp hf).1 (zRp hf).2
      · have hf := hf.1 b12
        refine zr_iconst (pc := 33) (v := (-1 : Int32)) h dX12_flaps_33 (by decide) ?_
        exact zr_iret (pc := 34) h dX12_flaps_34 (zRp hf).1 (zRp hf).2

set_option maxRecDepth 100000 in
set_option maxHeartbeats 4000000 in
theorem fX12_needs_n111_ok {l : Launch} {g : gG} {k57 : Int32 → Int32 → Int32 → Int32 → Int32 → gM → Option (Int32 × gM)} {r : Int32} {ν : gM} {K : gKt} (h : gR l g cX12_needs RX12 6 (some .int) (gRm 9 202) (some (.int r)) ν K) (hk57 : ∀ (y1 : Int32) (y2 : Int32) (y3 : Int32) (y4 : Int32) (y5 : Int32) (ν1 : gM), k57 y1 y2 y3 y4 y5 ν1 = some (r, ν) → K 57 [some (.ref (g.1 + 267)), some (.int y1), some (.int y2), some (.int y3), some (.int y4), some (.int y5)] [] ν1) {y1 : Int32} {y2 : Int32} {y3 : Int32} {y5 : Int32} {z0 : Int32} {z1 : Int32} {μ : gM} (hf : fX12_needs_n111 k57 y1 y2 y3 y5 z0 z1 μ = some (r, ν)) : K 111 [some (.ref (g.1 + 267)), some (.int y1), some (.int y2), some (.int y3), none, some (.int y5)] [.int z0, .int z1] μ := by
  unfold fX12_needs_n111 at hf
  obtain ⟨x14, ex14, hf⟩ := zBd_s hf
  refine zm_X12_178 (pc := 111) h ⟨by decide, by decide⟩ (cX12_flag_ok ex14) rfl (Nat.le_of_ble_eq_true rfl) dX12_needs_111 rfl ?_
  refine zr_iload (pc := 114) h dX12_needs_114 rfl ?_
  refine zr_ishl (pc := 116) h dX12_needs_116 ?_
  refine zr_ior (pc := 117) h dX12_needs_117 ?_
  refine zr_topi h (fun x15 ex15 => ?_)
  have hf := zLt_s ex15 hf
  refine zr_istore (pc := 118) h dX12_needs_118 (by decide) rfl ?_
  refine zr_iincx (pc := 120) h dX12_needs_120 rfl (by decide) rfl (c := (1 : Int32)) (by decide) (fun x16 ex16 => ?_)
  have hf := zLt_s ex16 hf
  refine zr_goto (pc := 123) (tgt := 57) h dX12_needs_123 rfl ?_
  exact zr_weak h [true, true, true, true, true, true] (hk57 _ _ _ _ _ _ hf)

set_option maxRecDepth 100000 in
set_option maxHeartbeats 4000000 in
theorem fX12_needs_l57_ok {l : Launch} {g : gG} {r : Int32} {ν : gM} {K : gKt} (h : gR l g cX12_needs RX12 6 (some .int) (gRm 9 202) (some (.int r)) ν K) : ∀ (n : Nat) (y1 : Int32) (y2 : Int32) (y3 : Int32) (y4 : Int32) (y5 : Int32) (μ : gM), fX12_needs_l57 n y1 y2 y3 y4 y5 μ = some (r, ν) → K 57 [some (.ref (g.1 + 267)), some (.int y1), some (.int y2), some (.int y3), some (.int y4), some (.int y5)] [] μ := by
  intro n
  induction n with
  | zero =>
    intro y1 y2 y3 y4 y5 μ hf
    cases (show (none : Option (Int32 × gM)) = some _ from hf)
  | succ n ih =>
    intro y1 y2 y3 y4 y5 μ hf
    unfold fX12_needs_l57 at hf
    refine zr_iload (pc := 57) h dX12_needs_57 rfl ?_
    refine zr_aload_n (pc := 59) h dX12_needs_59 rfl rfl ?_
    refine zf_X12_17 (pc := 60) h gkc_267 dX12_needs_60 ?_
    refine zr_iconst (pc := 63) (v := (1 : Int32)) h dX12_needs_63 (by decide) ?_
    refine zr_iald (pc := 64) (q := 1) h gkc_269 rfl (by decide) dX12_needs_64 ?_
    have hf := zIf_s hf
    refine zr_icmp_ge (pc := 65) (tgt := 126) h dX12_needs_65 rfl (fun b18 => ?_) (fun b18 => ?_)
    · have hf := hf.1 b18
      refine zr_aload_n (pc := 126) h dX12_needs_126 rfl rfl ?_
      refine zr_iload (pc := 127) h dX12_needs_127 rfl ?_
      obtain ⟨x8, μ9, ex8, hf⟩ := zBp_s hf
      refine zm_X12_402 (pc := 129) h gkc_267 ⟨by decide, by decide⟩ (cX12_fromPaper_ok ex8) rfl (Nat.le_of_ble_eq_true rfl) dX12_needs_129 rfl ?_
      exact zr_iret (pc := 132) h dX12_needs_132 (zRp hf).1 (zRp hf).2
    · have hf := hf.2 b18
      refine zr_aload_n (pc := 68) h dX12_needs_68 rfl rfl ?_
      refine zr_bipush (pc := 69) (v := (14 : Int32)) h dX12_needs_69 (by decide) ?_
      obtain ⟨μ10, eμ10, hf⟩ := zBd_s hf
      refine zm_X12_390 (pc := 71) h gkc_267 ⟨by decide, by decide⟩ (cX12_takesFrom_ok eμ10) rfl (Nat.le_of_ble_eq_true rfl) dX12_needs_71 rfl ?_
      refine zr_aload_n (pc := 74) h dX12_needs_74 rfl rfl ?_
      refine zf_X12_27 (pc := 75) h gkc_267 dX12_needs_75 ?_
      refine zr_iconst (pc := 78) (v := (2 : Int32)) h dX12_needs_78 (by decide) ?_
      refine zr_dup2 (pc := 79) h dX12_needs_79 rfl rfl ?_
      refine zr_iald (pc := 80) (q := 2) h gkc_272 rfl (by decide) dX12_needs_80 ?_
      refine zr_iconst (pc := 81) (v := (1 : Int32)) h dX12_needs_81 (by decide) ?_
      refine zr_iload (pc := 82) h dX12_needs_82 rfl ?_
      refine zr_ishl (pc := 84) h dX12_needs_84 ?_
      refine zr_ior (pc := 85) h dX12_needs_85 ?_
      refine zr_iast (pc := 86) (q := 2) h gkc_272 rfl (by decide) dX12_needs_86 ?_
      refine zr_mu h (fun μ11 eμ11 => ?_)
      have hf := zLt_s eμ11 hf
      refine zr_aload_n (pc := 87) h dX12_needs_87 rfl rfl ?_
      refine zr_sipush (pc := 88) (v := (300 : Int32)) h dX12_needs_88 (by decide) ?_
      obtain ⟨μ12, eμ12, hf⟩ := zBd_s hf
      refine zm_X12_399 (pc := 91) h gkc_267 ⟨by decide, by decide⟩ (cX12_goes_ok eμ12) rfl (Nat.le_of_ble_eq_true rfl) dX12_needs_91 rfl ?_
      refine zr_iload (pc := 94) h dX12_needs_94 rfl ?_
      refine zr_aload_n (pc := 96) h dX12_needs_96 rfl rfl ?_
      refine zr_iload_n (pc := 97) h dX12_needs_97 rfl rfl ?_
      refine zr_iload_n (pc := 98) h dX12_needs_98 rfl rfl ?_
      obtain ⟨x13, ex13, hf⟩ := zBd_s hf
      refine zm_X12_382 (pc := 99) h gkc_267 ⟨by decide, by decide⟩ (cX12_holderOf_ok ex13) rfl (Nat.le_of_ble_eq_true rfl) dX12_needs_99 rfl ?_
      refine zr_iload_n (pc := 102) h dX12_needs_102 rfl rfl ?_
      have hf := zIf_s hf
      refine zr_icmp_eq (pc := 103) (tgt := 110) h dX12_needs_103 rfl (fun b17 => ?_) (fun b17 => ?_)
      · have hf := hf.1 b17
        refine zr_iconst (pc := 110) (v := (0 : Int32)) h dX12_needs_110 (by decide) ?_
        exact zr_weak h [true, true, true, true, false, true] (fX12_needs_n111_ok h ih hf)
      · have hf := hf.2 b17
        refine zr_iconst (pc := 106) (v := (1 : Int32)) h dX12_needs_106 (by decide) ?_
        refine zr_goto (pc := 107) (tgt := 111) h dX12_needs_107 rfl ?_
        exact zr_weak h [true, true, true, true, false, true] (fX12_needs_n111_ok h ih hf)

set_option maxRecDepth 100000 in
set_option maxHeartbeats 4000000 in
theorem cX12_needs_ok {l : Launch} {g : gG} {a1 : Int32} {a2 : Int32} {μ : gM} {r : Int32} {ν : gM} (hf : fX12_needs a1 a2 μ = some (r, ν)) : gMet l g yX12_needs cX12_needs 6 (some .int) 9 202 [.ref (g.1 + 267), .int a1, .int a2] μ (some (.int r)) ν := by
  refine gMet_of (gIni [.ref (g.1 + 267), .int a1, .int a2] ++ List.replicate 3 none) (by decide) (gIni_ok _ _) (Nat.le_of_ble_eq_true rfl) (fun K h => ?_)
  show K 0 [some (.ref (g.1 + 267)), some (.int a1), some (.int a2), none, none, none] [] μ
  unfold fX12_needs at hf
  refine zr_aload_n (pc := 0) h dX12_needs_0 rfl rfl ?_
  refine zr_iconst (pc := 1) (v := (0 : Int32)) h dX12_needs_1 (by decide) ?_
  refine zp_X12_46 (pc := 2) h gkc_267 dX12_needs_2 ?_
  refine zr_mu h (fun μ1 eμ1 => ?_)
  have hf := zLt_s eμ1 hf
  refine zr_aload_n (pc := 5) h dX12_needs_5 rfl rfl ?_
  refine zr_iload_n (pc := 6) h dX12_needs_6 rfl rfl ?_
  obtain ⟨x2, ex2, hf⟩ := zBd_s hf
  refine zm_X12_259 (pc := 7) h gkc_267 ⟨by decide, by decide⟩ (cX12_isGroup_ok ex2) rfl (Nat.le_of_ble_eq_true rfl) dX12_needs_7 rfl ?_
  have hf := zIf_s hf
  refine zr_if_eq (pc := 10) (tgt := 31) h dX12_needs_10 rfl (fun b21 => ?_) (fun b21 => ?_)
  · have hf := hf.1 b21
    refine zr_iconst (pc := 31) (v := (-1 : Int32)) h dX12_needs_31 (by decide) ?_
    exact zr_iret (pc := 32) h dX12_needs_32 (zRp hf).1 (zRp hf).2
  · have hf := hf.2 b21
    refine zr_aload_n (pc := 13) h dX12_needs_13 rfl rfl ?_
    refine zr_iload_n (pc := 14) h dX12_needs_14 rfl rfl ?_
    obtain ⟨x3, ex3, hf⟩ := zBd_s hf
    refine zm_X12_262 (pc := 15) h gkc_267 ⟨by decide, by decide⟩ (cX12_isGate_ok ex3) rfl (Nat.le_of_ble_eq_true rfl) dX12_needs_15 rfl ?_
    have hf := zIf_s hf
    refine zr_if_eq (pc := 18) (tgt := 31) h dX12_needs_18 rfl (fun b20 => ?_) (fun b20 => ?_)
    · have hf := hf.1 b20
      refine zr_iconst (pc := 31) (v := (-1 : Int32)) h dX12_needs_31 (by decide) ?_
      exact zr_iret (pc := 32) h dX12_needs_32 (zRp hf).1 (zRp hf).2
    · have hf := hf.2 b20
      refine zr_aload_n (pc := 21) h dX12_needs_21 rfl rfl ?_
      refine zr_sipush (pc := 22) (v := (300 : Int32)) h dX12_needs_22 (by decide) ?_
      obtain ⟨x4, ex4, hf⟩ := zBd_s hf
      refine zm_X12_393 (pc := 25) h gkc_267 ⟨by decide, by decide⟩ (cX12_canGo_ok ex4) rfl (Nat.le_of_ble_eq_true rfl) dX12_needs_25 rfl ?_
      have hf := zIf_s hf
      refine zr_if_ne (pc := 28) (tgt := 33) h dX12_needs_28 rfl (fun b19 => ?_) (fun b19 => ?_)
      · have hf := hf.2 b19
        refine zr_aload_n (pc := 33) h dX12_needs_33 rfl rfl ?_
        obtain ⟨μ5, eμ5, hf⟩ := zBd_s hf
        refine zm_X12_396 (pc := 34) h gkc_267 ⟨by decide, by decide⟩ (cX12_toPaper_ok eμ5) rfl (Nat.le_of_ble_eq_true rfl) dX12_needs_34 rfl ?_
        refine zr_aload_n (pc := 37) h dX12_needs_37 rfl rfl ?_
        refine zr_sipush (pc := 38) (v := (300 : Int32)) h dX12_needs_38 (by decide) ?_
        obtain ⟨μ6, eμ6, hf⟩ := zBd_s hf
        refine zm_X12_399 (pc := 41) h gkc_267 ⟨by decide, by decide⟩ (cX12_goes_ok eμ6) rfl (Nat.le_of_ble_eq_true rfl) dX12_needs_41 rfl ?_
        refine zr_aload_n (pc := 44) h dX12_needs_44 rfl rfl ?_
        refine zr_iload_n (pc := 45) h dX12_needs_45 rfl rfl ?_
        refine zr_iload_n (pc := 46) h dX12_needs_46 rfl rfl ?_
        obtain ⟨x7, ex7, hf⟩ := zBd_s hf
        refine zm_X12_382 (pc := 47) h gkc_267 ⟨by decide, by decide⟩ (cX12_holderOf_ok ex7) rfl (Nat.le_of_ble_eq_true rfl) dX12_needs_47 rfl ?_
        refine zr_istore_n (pc := 50) h dX12_needs_50 rfl (by decide) rfl ?_
        refine zr_iconst (pc := 51) (v := (0 : Int32)) h dX12_needs_51 (by decide) ?_
        refine zr_istore (pc := 52) h dX12_needs_52 (by decide) rfl ?_
        refine zr_iconst (pc := 54) (v := (0 : Int32)) h dX12_needs_54 (by decide) ?_
        refine zr_istore (pc := 55) h dX12_needs_55 (by decide) rfl ?_
        exact zr_weak h [true, true, true, true, true, true] (fX12_needs_l57_ok h 100000 _ _ _ _ _ _ hf)
      · have hf := hf.1 b19
        refine zr_iconst (pc := 31) (v := (-1 : Int32)) h dX12_needs_31 (by decide) ?_
        exact zr_iret (pc := 32) h dX12_needs_32 (zRp hf).1 (zRp hf).2

set_option maxRecDepth 100000 in
set_option maxHeartbeats 4000000 in
theorem cX12_letters_ok {l : Launch} {g : gG} {a1 : Int32} {μ : gM} {r : Int32} {ν : gM} (hf : fX12_letters a1 μ = some (r, ν)) : gMet l g yX12_letters cX12_letters 3 (some .int) 9 202 [.ref (g.1 + 267), .int a1] μ (some (.int r)) ν := by
  refine gMet_of (gIni [.ref (g.1 + 267), .int a1] ++ List.replicate 1 none) (by decide) (gIni_ok _ _) (Nat.le_of_ble_eq_true rfl) (fun K h => ?_)
  show K 0 [some (.ref (g.1 + 267)), some (.int a1), none] [] μ
  unfold fX12_letters at hf
  refine zr_aload_n (pc := 0) h dX12_letters_0 rfl rfl ?_
  refine zr_iconst (pc := 1) (v := (0 : Int32)) h dX12_letters_1 (by decide) ?_
  refine zp_X12_46 (pc := 2) h gkc_267 dX12_letters_2 ?_
  refine zr_mu h (fun μ1 eμ1 => ?_)
  have hf := zLt_s eμ1 hf
  refine zr_aload_n (pc := 5) h dX12_letters_5 rfl rfl ?_
  refine zf_X12_224 (pc := 6) h gkc_267 dX12_letters_6 ?_
  have hf := zIf_s hf
  refine zr_if_eq (pc := 9) (tgt := 32) h dX12_letters_9 rfl (fun b11 => ?_) (fun b11 => ?_)
  · have hf := hf.1 b11
    refine zr_iconst (pc := 32) (v := (-1 : Int32)) h dX12_letters_32 (by decide) ?_
    exact zr_iret (pc := 33) h dX12_letters_33 (zRp hf).1 (zRp hf).2
  · have hf := hf.2 b11
    refine zr_iload_n (pc := 12) h dX12_letters_12 rfl rfl ?_
    refine zr_i2l (pc := 13) h dX12_letters_13 ?_
    refine zr_lconst (pc := 14) (v := (1 : Int64)) h dX12_letters_14 (by decide) ?_
    refine zr_ldc2 (pc := 15) h zw_1739 dX12_letters_15 ?_
    obtain ⟨x2, ex2, hf⟩ := zBd_s hf
    refine zm_X12_56 (pc := 18) h ⟨by decide, by decide⟩ (cX12_isIn_ok ex2) rfl (Nat.le_of_ble_eq_true rfl) dX12_letters_18 rfl ?_
    have hf := zIf_s hf
    refine zr_if_eq (pc := 21) (tgt := 32) h dX12_letters_21 rfl (fun b10 => ?_) (fun b10 => ?_)
    · have hf := hf.1 b10
      refine zr_iconst (pc := 32) (v := (-1 : Int32)) h dX12_letters_32 (by decide) ?_
      exact zr_iret (pc := 33) h dX12_letters_33 (zRp hf).1 (zRp hf).2
    · have hf := hf.2 b10
      refine zr_aload_n (pc := 24) h dX12_letters_24 rfl rfl ?_
      refine zr_iload_n (pc := 25) h dX12_letters_25 rfl rfl ?_
      obtain ⟨x3, ex3, hf⟩ := zBd_s hf
      refine zm_X12_393 (pc := 26) h gkc_267 ⟨by decide, by decide⟩ (cX12_canGo_ok ex3) rfl (Nat.le_of_ble_eq_true rfl) dX12_letters_26 rfl ?_
      have hf := zIf_s hf
      refine zr_if_ne (pc := 29) (tgt := 34) h dX12_letters_29 rfl (fun b9 => ?_) (fun b9 => ?_)
      · have hf := hf.2 b9
        refine zr_aload_n (pc := 34) h dX12_letters_34 rfl rfl ?_
        obtain ⟨μ4, eμ4, hf⟩ := zBd_s hf
        refine zm_X12_396 (pc := 35) h gkc_267 ⟨by decide, by decide⟩ (cX12_toPaper_ok eμ4) rfl (Nat.le_of_ble_eq_true rfl) dX12_letters_35 rfl ?_
        refine zr_aload_n (pc := 38) h dX12_letters_38 rfl rfl ?_
        refine zf_X12_27 (pc := 39) h gkc_267 dX12_letters_39 ?_
        refine zr_iconst (pc := 42) (v := (5 : Int32)) h dX12_letters_42 (by decide) ?_
        refine zr_iald (pc := 43) (q := 5) h gkc_272 rfl (by decide) dX12_letters_43 ?_
        refine zr_topi h (fun x5 ex5 => ?_)
        have hf := zLt_s ex5 hf
        refine zr_istore_n (pc := 44) h dX12_letters_44 rfl (by decide) rfl ?_
        refine zr_aload_n (pc := 45) h dX12_letters_45 rfl rfl ?_
        refine zr_iload_n (pc := 46) h dX12_letters_46 rfl rfl ?_
        obtain ⟨μ6, eμ6, hf⟩ := zBd_s hf
        refine zm_X12_399 (pc := 47) h gkc_267 ⟨by decide, by decide⟩ (cX12_goes_ok eμ6) rfl (Nat.le_of_ble_eq_true rfl) dX12_letters_47 rfl ?_
        refine zr_aload_n (pc := 50) h dX12_letters_50 rfl rfl ?_
        refine zr_aload_n (pc := 51) h dX12_letters_51 rfl rfl ?_
        refine zf_X12_27 (pc := 52) h gkc_267 dX12_letters_52 ?_
        refine zr_iconst (pc := 55) (v := (5 : Int32)) h dX12_letters_55 (by decide) ?_
        refine zr_iald (pc := 56) (q := 5) h gkc_272 rfl (by decide) dX12_letters_56 ?_
        refine zr_iload_n (pc := 57) h dX12_letters_57 rfl rfl ?_
        refine zr_isub (pc := 58) h dX12_letters_58 ?_
        obtain ⟨x7, μ8, ex7, hf⟩ := zBp_s hf
        refine zm_X12_402 (pc := 59) h gkc_267 ⟨by decide, by decide⟩ (cX12_fromPaper_ok ex7) rfl (Nat.le_of_ble_eq_true rfl) dX12_letters_59 rfl ?_
        exact zr_iret (pc := 62) h dX12_letters_62 (zRp hf).1 (zRp hf).2
      · have hf := hf.1 b9
        refine zr_iconst (pc := 32) (v := (-1 : Int32)) h dX12_letters_32 (by decide) ?_
        exact zr_iret (pc := 33) h dX12_letters_33 (zRp hf).1 (zRp hf).2

set_option maxRecDepth 100000 in
set_option maxHeartbeats 4000000 in
theorem fX12_stands_l46_ok {l : Launch} {g : gG} {r : Int32} {ν : gM} {K : gKt} (h : gR l g cX12_stands RX12 6 (some .int) (gRm 8 180) (some (.int r)) ν K) : ∀ (n : Nat) (y1 : Int32) (y2 : Int32) (y3 : Int32) (y4 : Int32) (y5 : Int32) (μ : gM), fX12_stands_l46 n y1 y2 y3 y4 y5 μ = some (r, ν) → K 46 [some (.ref (g.1 + 267)), some (.int y1), some (.int y2), some (.int y3), some (.int y4), some (.int y5)] [] μ := by
  intro n
  induction n with
  | zero =>
    intro y1 y2 y3 y4 y5 μ hf
    cases (show (none : Option (Int32 × gM)) = some _ from hf)
  | succ n ih =>
    intro y1 y2 y3 y4 y5 μ hf
    unfold fX12_stands_l46 at hf
    refine zr_iload (pc := 46) h dX12_stands_46 rfl ?_
    refine zr_iload_n (pc := 48) h dX12_stands_48 rfl rfl ?_
    have hf := zIf_s hf
    refine zr_icmp_ge (pc := 49) (tgt := 76) h dX12_stands_49 rfl (fun b13 => ?_) (fun b13 => ?_)
    · have hf := hf.1 b13
      refine zr_aload_n (pc := 76) h dX12_stands_76 rfl rfl ?_
      refine zr_iload (pc := 77) h dX12_stands_77 rfl ?_
      obtain ⟨x6, μ7, ex6, hf⟩ := zBp_s hf
      refine zm_X12_402 (pc := 79) h gkc_267 ⟨by decide, by decide⟩ (cX12_fromPaper_ok ex6) rfl (Nat.le_of_ble_eq_true rfl) dX12_stands_79 rfl ?_
      exact zr_iret (pc := 82) h dX12_stands_82 (zRp hf).1 (zRp hf).2
    · have hf := hf.2 b13
      refine zr_aload_n (pc := 52) h dX12_stands_52 rfl rfl ?_
      obtain ⟨μ8, eμ8, hf⟩ := zBd_s hf
      refine zm_X12_369 (pc := 53) h gkc_267 ⟨by decide, by decide⟩ (cX12_tickGoes_ok eμ8) rfl (Nat.le_of_ble_eq_true rfl) dX12_stands_53 rfl ?_
      refine zr_iload (pc := 56) h dX12_stands_56 rfl ?_
      refine zr_aload_n (pc := 58) h dX12_stands_58 rfl rfl ?_
      refine zr_iload_n (pc := 59) h dX12_stands_59 rfl rfl ?_
      refine zr_iload_n (pc := 60) h dX12_stands_60 rfl rfl ?_
      obtain ⟨x9, ex9, hf⟩ := zBd_s hf
      refine zm_X12_299 (pc := 61) h gkc_267 ⟨by decide, by decide⟩ (cX12_doesHold_ok ex9) rfl (Nat.le_of_ble_eq_true rfl) dX12_stands_61 rfl ?_
      obtain ⟨x10, ex10, hf⟩ := zBd_s hf
      refine zm_X12_178 (pc := 64) h ⟨by decide, by decide⟩ (cX12_flag_ok ex10) rfl (Nat.le_of_ble_eq_true rfl) dX12_stands_64 rfl ?_
      refine zr_iadd (pc := 67) h dX12_stands_67 ?_
      refine zr_topi h (fun x11 ex11 => ?_)
      have hf := zLt_s ex11 hf
      refine zr_istore (pc := 68) h dX12_stands_68 (by decide) rfl ?_
      refine zr_iincx (pc := 70) h dX12_stands_70 rfl (by decide) rfl (c := (1 : Int32)) (by decide) (fun x12 ex12 => ?_)
      have hf := zLt_s ex12 hf
      refine zr_goto (pc := 73) (tgt := 46) h dX12_stands_73 rfl ?_
      exact zr_weak h [true, true, true, true, true, true] (ih _ _ _ _ _ _ hf)

set_option maxRecDepth 100000 in
set_option maxHeartbeats 4000000 in
theorem cX12_stands_ok {l : Launch} {g : gG} {a1 : Int32} {a2 : Int32} {a3 : Int32} {μ : gM} {r : Int32} {ν : gM} (hf : fX12_stands a1 a2 a3 μ = some (r, ν)) : gMet l g yX12_stands cX12_stands 6 (some .int) 8 180 [.ref (g.1 + 267), .int a1, .int a2, .int a3] μ (some (.int r)) ν := by
  refine gMet_of (gIni [.ref (g.1 + 267), .int a1, .int a2, .int a3] ++ List.replicate 2 none) (by decide) (gIni_ok _ _) (Nat.le_of_ble_eq_true rfl) (fun K h => ?_)
  show K 0 [some (.ref (g.1 + 267)), some (.int a1), some (.int a2), some (.int a3), none, none] [] μ
  unfold fX12_stands at hf
  refine zr_aload_n (pc := 0) h dX12_stands_0 rfl rfl ?_
  refine zr_iconst (pc := 1) (v := (0 : Int32)) h dX12_stands_1 (by decide) ?_
  refine zp_X12_46 (pc := 2) h gkc_267 dX12_stands_2 ?_
  refine zr_mu h (fun μ1 eμ1 => ?_)
  have hf := zLt_s eμ1 hf
  refine zr_aload_n (pc := 5) h dX12_stands_5 rfl rfl ?_
  refine zr_iload_n (pc := 6) h dX12_stands_6 rfl rfl ?_
  refine zr_iload_n (pc := 7) h dX12_stands_7 rfl rfl ?_
  obtain ⟨x2, ex2, hf⟩ := zBd_s hf
  refine zm_X12_287 (pc := 8) h gkc_267 ⟨by decide, by decide⟩ (cX12_isMember_ok ex2) rfl (Nat.le_of_ble_eq_true rfl) dX12_stands_8 rfl ?_
  have hf := zIf_s hf
  refine zr_if_eq (pc := 11) (tgt := 34) h dX12_stands_11 rfl (fun b16 => ?_) (fun b16 => ?_)
  · have hf := hf.1 b16
    refine zr_iconst (pc := 34) (v := (-1 : Int32)) h dX12_stands_34 (by decide) ?_
    exact zr_iret (pc := 35) h dX12_stands_35 (zRp hf).1 (zRp hf).2
  · have hf := hf.2 b16
    refine zr_iload_n (pc := 14) h dX12_stands_14 rfl rfl ?_
    refine zr_i2l (pc := 15) h dX12_stands_15 ?_
    refine zr_lconst (pc := 16) (v := (1 : Int64)) h dX12_stands_16 (by decide) ?_
    refine zr_ldc2 (pc := 17) h zw_1739 dX12_stands_17 ?_
    obtain ⟨x3, ex3, hf⟩ := zBd_s hf
    refine zm_X12_56 (pc := 20) h ⟨by decide, by decide⟩ (cX12_isIn_ok ex3) rfl (Nat.le_of_ble_eq_true rfl) dX12_stands_20 rfl ?_
    have hf := zIf_s hf
    refine zr_if_eq (pc := 23) (tgt := 34) h dX12_stands_23 rfl (fun b15 => ?_) (fun b15 => ?_)
    · have hf := hf.1 b15
      refine zr_iconst (pc := 34) (v := (-1 : Int32)) h dX12_stands_34 (by decide) ?_
      exact zr_iret (pc := 35) h dX12_stands_35 (zRp hf).1 (zRp hf).2
    · have hf := hf.2 b15
      refine zr_aload_n (pc := 26) h dX12_stands_26 rfl rfl ?_
      refine zr_iload_n (pc := 27) h dX12_stands_27 rfl rfl ?_
      obtain ⟨x4, ex4, hf⟩ := zBd_s hf
      refine zm_X12_393 (pc := 28) h gkc_267 ⟨by decide, by decide⟩ (cX12_canGo_ok ex4) rfl (Nat.le_of_ble_eq_true rfl) dX12_stands_28 rfl ?_
      have hf := zIf_s hf
      refine zr_if_ne (pc := 31) (tgt := 36) h dX12_stands_31 rfl (fun b14 => ?_) (fun b14 => ?_)
      · have hf := hf.2 b14
        refine zr_aload_n (pc := 36) h dX12_stands_36 rfl rfl ?_
        obtain ⟨μ5, eμ5, hf⟩ := zBd_s hf
        refine zm_X12_396 (pc := 37) h gkc_267 ⟨by decide, by decide⟩ (cX12_toPaper_ok eμ5) rfl (Nat.le_of_ble_eq_true rfl) dX12_stands_37 rfl ?_
        refine zr_iconst (pc := 40) (v := (0 : Int32)) h dX12_stands_40 (by decide) ?_
        refine zr_istore (pc := 41) h dX12_stands_41 (by decide) rfl ?_
        refine zr_iconst (pc := 43) (v := (0 : Int32)) h dX12_stands_43 (by decide) ?_
        refine zr_istore (pc := 44) h dX12_stands_44 (by decide) rfl ?_
        exact zr_weak h [true, true, true, true, true, true] (fX12_stands_l46_ok h 100000 _ _ _ _ _ _ hf)
      · have hf := hf.1 b14
        refine zr_iconst (pc := 34) (v := (-1 : Int32)) h dX12_stands_34 (by decide) ?_
        exact zr_iret (pc := 35) h dX12_stands_35 (zRp hf).1 (zRp hf).2

set_option maxRecDepth 100000 in
set_option maxHeartbeats 4000000 in
theorem fX12_returns_n84_ok {l : Launch} {g : gG} {r : Int32} {ν : gM} {K : gKt} (h : gR l g cX12_returns RX12 4 (some .int) (gRm 8 180) (some (.int r)) ν K) {z0 : Int32} {μ : gM} (hf : fX12_returns_n84 z0 μ = some (r, ν)) : K 84 [none, none, none, none] [.int z0, .ref (g.1 + 267)] μ := by
  unfold fX12_returns_n84 at hf
  obtain ⟨x8, μ9, ex8, hf⟩ := zBp_s hf
  refine zm_X12_402 (pc := 84) h gkc_267 ⟨by decide, by decide⟩ (cX12_fromPaper_ok ex8) rfl (Nat.le_of_ble_eq_true rfl) dX12_returns_84 rfl ?_
  exact zr_iret (pc := 87) h dX12_returns_87 (zRp hf).1 (zRp hf).2

set_option maxRecDepth 100000 in
set_option maxHeartbeats 4000000 in
theorem fX12_returns_n69_ok {l : Launch} {g : gG} {r : Int32} {ν : gM} {K : gKt} (h : gR l g cX12_returns RX12 4 (some .int) (gRm 8 180) (some (.int r)) ν K) {y1 : Int32} {y2 : Int32} {y3 : Int32} {μ : gM} (hf : fX12_returns_n69 y1 y2 y3 μ = some (r, ν)) : K 69 [some (.ref (g.1 + 267)), some (.int y1), some (.int y2), some (.int y3)] [] μ := by
  unfold fX12_returns_n69 at hf
  refine zr_aload_n (pc := 69) h dX12_returns_69 rfl rfl ?_
  refine zr_aload_n (pc := 70) h dX12_returns_70 rfl rfl ?_
  refine zr_iload_n (pc := 71) h dX12_returns_71 rfl rfl ?_
  refine zr_iload_n (pc := 72) h dX12_returns_72 rfl rfl ?_
  obtain ⟨x7, ex7, hf⟩ := zBd_s hf
  refine zm_X12_299 (pc := 73) h gkc_267 ⟨by decide, by decide⟩ (cX12_doesHold_ok ex7) rfl (Nat.le_of_ble_eq_true rfl) dX12_returns_73 rfl ?_
  have hf := zIf_s hf
  refine zr_if_eq (pc := 76) (tgt := 83) h dX12_returns_76 rfl (fun b10 => ?_) (fun b10 => ?_)
  · have hf := hf.1 b10
    refine zr_iconst (pc := 83) (v := (-1 : Int32)) h dX12_returns_83 (by decide) ?_
    exact zr_weak h [false, false, false, false] (fX12_returns_n84_ok h hf)
  · have hf := hf.2 b10
    refine zr_iload_n (pc := 79) h dX12_returns_79 rfl rfl ?_
    refine zr_goto (pc := 80) (tgt := 84) h dX12_returns_80 rfl ?_
    exact zr_weak h [false, false, false, false] (fX12_returns_n84_ok h hf)

set_option maxRecDepth 100000 in
set_option maxHeartbeats 4000000 in
theorem fX12_returns_l35_ok {l : Launch} {g : gG} {r : Int32} {ν : gM} {K : gKt} (h : gR l g cX12_returns RX12 4 (some .int) (gRm 8 180) (some (.int r)) ν K) : ∀ (n : Nat) (y1 : Int32) (y2 : Int32) (y3 : Int32) (μ : gM), fX12_returns_l35 n y1 y2 y3 μ = some (r, ν) → K 35 [some (.ref (g.1 + 267)), some (.int y1), some (.int y2), some (.int y3)] [] μ := by
  intro n
  induction n with
  | zero =>
    intro y1 y2 y3 μ hf
    cases (show (none : Option (Int32 × gM)) = some _ from hf)
  | succ n ih =>
    intro y1 y2 y3 μ hf
    unfold fX12_returns_l35 at hf
    refine zr_aload_n (pc := 35) h dX12_returns_35 rfl rfl ?_
    refine zr_iload_n (pc := 36) h dX12_returns_36 rfl rfl ?_
    refine zr_iload_n (pc := 37) h dX12_returns_37 rfl rfl ?_
    obtain ⟨x6, ex6, hf⟩ := zBd_s hf
    refine zm_X12_299 (pc := 38) h gkc_267 ⟨by decide, by decide⟩ (cX12_doesHold_ok ex6) rfl (Nat.le_of_ble_eq_true rfl) dX12_returns_38 rfl ?_
    have hf := zIf_s hf
    refine zr_if_ne (pc := 41) (tgt := 69) h dX12_returns_41 rfl (fun b16 => ?_) (fun b16 => ?_)
    · have hf := hf.2 b16
      exact zr_weak h [true, true, true, true] (fX12_returns_n69_ok h hf)
    · have hf := hf.1 b16
      refine zr_iload_n (pc := 44) h dX12_returns_44 rfl rfl ?_
      refine zr_sipush (pc := 45) (v := (500 : Int32)) h dX12_returns_45 (by decide) ?_
      have hf := zIf_s hf
      refine zr_icmp_ge (pc := 48) (tgt := 69) h dX12_returns_48 rfl (fun b15 => ?_) (fun b15 => ?_)
      · have hf := hf.1 b15
        exact zr_weak h [true, true, true, true] (fX12_returns_n69_ok h hf)
      · have hf := hf.2 b15
        refine zr_aload_n (pc := 51) h dX12_returns_51 rfl rfl ?_
        refine zr_iconst (pc := 52) (v := (1 : Int32)) h dX12_returns_52 (by decide) ?_
        obtain ⟨x11, ex11, hf⟩ := zBd_s hf
        refine zm_X12_393 (pc := 53) h gkc_267 ⟨by decide, by decide⟩ (cX12_canGo_ok ex11) rfl (Nat.le_of_ble_eq_true rfl) dX12_returns_53 rfl ?_
        have hf := zIf_s hf
        refine zr_if_eq (pc := 56) (tgt := 69) h dX12_returns_56 rfl (fun b14 => ?_) (fun b14 => ?_)
        · have hf := hf.1 b14
          exact zr_weak h [true, true, true, true] (fX12_returns_n69_ok h hf)
        · have hf := hf.2 b14
          refine zr_aload_n (pc := 59) h dX12_returns_59 rfl rfl ?_
          obtain ⟨μ12, eμ12, hf⟩ := zBd_s hf
          refine zm_X12_369 (pc := 60) h gkc_267 ⟨by decide, by decide⟩ (cX12_tickGoes_ok eμ12) rfl (Nat.le_of_ble_eq_true rfl) dX12_returns_60 rfl ?_
          refine zr_iincx (pc := 63) h dX12_returns_63 rfl (by decide) rfl (c := (1 : Int32)) (by decide) (fun x13 ex13 => ?_)
          have hf := zLt_s ex13 hf
          refine zr_goto (pc := 66) (tgt := 35) h dX12_returns_66 rfl ?_
          exact zr_weak h [true, true, true, true] (ih _ _ _ _ hf)

set_option maxRecDepth 100000 in
set_option maxHeartbeats 4000000 in
theorem cX12_returns_ok {l : Launch} {g : gG} {a1 : Int32} {a2 : Int32} {μ : gM} {r : Int32} {ν : gM} (hf : fX12_returns a1 a2 μ = some (r, ν)) : gMet l g yX12_returns cX12_returns 4 (some .int) 8 180 [.ref (g.1 + 267), .int a1, .int a2] μ (some (.int r)) ν := by
  refine gMet_of (gIni [.ref (g.1 + 267), .int a1, .int a2] ++ List.replicate 1 none) (by decide) (gIni_ok _ _) (Nat.le_of_ble_eq_true rfl) (fun K h => ?_)
  show K 0 [some (.ref (g.1 + 267)), some (.int a1), some (.int a2), none] [] μ
  unfold fX12_returns at hf
  refine zr_aload_n (pc := 0) h dX12_returns_0 rfl rfl ?_
  refine zr_iconst (pc := 1) (v := (0 : Int32)) h dX12_returns_1 (by decide) ?_
  refine zp_X12_46 (pc := 2) h gkc_267 dX12_returns_2 ?_
  refine zr_mu h (fun μ1 eμ1 => ?_)
  have hf := zLt_s eμ1 hf
  refine zr_aload_n (pc := 5) h dX12_returns_5 rfl rfl ?_
  refine zr_iload_n (pc := 6) h dX12_returns_6 rfl rfl ?_
  refine zr_iload_n (pc := 7) h dX12_returns_7 rfl rfl ?_
  obtain ⟨x2, ex2, hf⟩ := zBd_s hf
  refine zm_X12_287 (pc := 8) h gkc_267 ⟨by decide, by decide⟩ (cX12_isMember_ok ex2) rfl (Nat.le_of_ble_eq_true rfl) dX12_returns_8 rfl ?_
  have hf := zIf_s hf
  refine zr_if_eq (pc := 11) (tgt := 22) h dX12_returns_11 rfl (fun b18 => ?_) (fun b18 => ?_)
  · have hf := hf.1 b18
    refine zr_iconst (pc := 22) (v := (-1 : Int32)) h dX12_returns_22 (by decide) ?_
    exact zr_iret (pc := 23) h dX12_returns_23 (zRp hf).1 (zRp hf).2
  · have hf := hf.2 b18
    refine zr_aload_n (pc := 14) h dX12_returns_14 rfl rfl ?_
    refine zr_iload_n (pc := 15) h dX12_returns_15 rfl rfl ?_
    obtain ⟨x3, ex3, hf⟩ := zBd_s hf
    refine zm_X12_305 (pc := 16) h gkc_267 ⟨by decide, by decide⟩ (cX12_isUp_ok ex3) rfl (Nat.le_of_ble_eq_true rfl) dX12_returns_16 rfl ?_
    have hf := zIf_s hf
    refine zr_if_eq (pc := 19) (tgt := 24) h dX12_returns_19 rfl (fun b17 => ?_) (fun b17 => ?_)
    · have hf := hf.1 b17
      refine zr_aload_n (pc := 24) h dX12_returns_24 rfl rfl ?_
      obtain ⟨μ4, eμ4, hf⟩ := zBd_s hf
      refine zm_X12_396 (pc := 25) h gkc_267 ⟨by decide, by decide⟩ (cX12_toPaper_ok eμ4) rfl (Nat.le_of_ble_eq_true rfl) dX12_returns_25 rfl ?_
      refine zr_aload_n (pc := 28) h dX12_returns_28 rfl rfl ?_
      refine zr_iload_n (pc := 29) h dX12_returns_29 rfl rfl ?_
      obtain ⟨μ5, eμ5, hf⟩ := zBd_s hf
      refine zm_X12_308 (pc := 30) h gkc_267 ⟨by decide, by decide⟩ (cX12_comesUp_ok eμ5) rfl (Nat.le_of_ble_eq_true rfl) dX12_returns_30 rfl ?_
      refine zr_iconst (pc := 33) (v := (0 : Int32)) h dX12_returns_33 (by decide) ?_
      refine zr_istore_n (pc := 34) h dX12_returns_34 rfl (by decide) rfl ?_
      exact zr_weak h [true, true, true, true] (fX12_returns_l35_ok h 100000 _ _ _ _ hf)
    · have hf := hf.2 b17
      refine zr_iconst (pc := 22) (v := (-1 : Int32)) h dX12_returns_22 (by decide) ?_
      exact zr_iret (pc := 23) h dX12_returns_23 (zRp hf).1 (zRp hf).2

set_option maxRecDepth 100000 in
set_option maxHeartbeats 4000000 in
theorem cX12_under_ok {l : Launch} {g : gG} {a1 : Int32} {a2 : Int32} {a3 : Int32} {μ : gM} {r : Int32} {ν : gM} (hf : fX12_under a1 a2 a3 μ = some (r, ν)) : gMet l g yX12_under cX12_under 4 (some .int) 9 202 [.ref (g.1 + 267), .int a1, .int a2, .int a3] μ (some (.int r)) ν := by
  refine gMet_of (gIni [.ref (g.1 + 267), .int a1, .int a2, .int a3] ++ List.replicate 0 none) (by decide) (gIni_ok _ _) (Nat.le_of_ble_eq_true rfl) (fun K h => ?_)
  show K 0 [some (.ref (g.1 + 267)), some (.int a1), some (.int a2), some (.int a3)] [] μ
  unfold fX12_under at hf
  refine zr_aload_n (pc := 0) h dX12_under_0 rfl rfl ?_
  refine zr_iconst (pc := 1) (v := (0 : Int32)) h dX12_under_1 (by decide) ?_
  refine zp_X12_46 (pc := 2) h gkc_267 dX12_under_2 ?_
  refine zr_mu h (fun μ1 eμ1 => ?_)
  have hf := zLt_s eμ1 hf
  refine zr_aload_n (pc := 5) h dX12_under_5 rfl rfl ?_
  refine zr_iload_n (pc := 6) h dX12_under_6 rfl rfl ?_
  obtain ⟨x2, ex2, hf⟩ := zBd_s hf
  refine zm_X12_259 (pc := 7) h gkc_267 ⟨by decide, by decide⟩ (cX12_isGroup_ok ex2) rfl (Nat.le_of_ble_eq_true rfl) dX12_under_7 rfl ?_
  have hf := zIf_s hf
  refine zr_if_eq (pc := 10) (tgt := 51) h dX12_under_10 rfl (fun b15 => ?_) (fun b15 => ?_)
  · have hf := hf.1 b15
    refine zr_iconst (pc := 51) (v := (-1 : Int32)) h dX12_under_51 (by decide) ?_
    exact zr_iret (pc := 52) h dX12_under_52 (zRp hf).1 (zRp hf).2
  · have hf := hf.2 b15
    refine zr_aload_n (pc := 13) h dX12_under_13 rfl rfl ?_
    refine zr_iload_n (pc := 14) h dX12_under_14 rfl rfl ?_
    obtain ⟨x3, ex3, hf⟩ := zBd_s hf
    refine zm_X12_262 (pc := 15) h gkc_267 ⟨by decide, by decide⟩ (cX12_isGate_ok ex3) rfl (Nat.le_of_ble_eq_true rfl) dX12_under_15 rfl ?_
    have hf := zIf_s hf
    refine zr_if_eq (pc := 18) (tgt := 51) h dX12_under_18 rfl (fun b14 => ?_) (fun b14 => ?_)
    · have hf := hf.1 b14
      refine zr_iconst (pc := 51) (v := (-1 : Int32)) h dX12_under_51 (by decide) ?_
      exact zr_iret (pc := 52) h dX12_under_52 (zRp hf).1 (zRp hf).2
    · have hf := hf.2 b14
      refine zr_iload_n (pc := 21) h dX12_under_21 rfl rfl ?_
      refine zr_i2l (pc := 22) h dX12_under_22 ?_
      refine zr_lconst (pc := 23) (v := (0 : Int64)) h dX12_under_23 (by decide) ?_
      refine zr_iconst (pc := 24) (v := (1 : Int32)) h dX12_under_24 (by decide) ?_
      refine zr_aload_n (pc := 25) h dX12_under_25 rfl rfl ?_
      refine zf_X12_17 (pc := 26) h gkc_267 dX12_under_26 ?_
      refine zr_iconst (pc := 29) (v := (1 : Int32)) h dX12_under_29 (by decide) ?_
      refine zr_iald (pc := 30) (q := 1) h gkc_269 rfl (by decide) dX12_under_30 ?_
      refine zr_ishl (pc := 31) h dX12_under_31 ?_
      refine zr_iconst (pc := 32) (v := (1 : Int32)) h dX12_under_32 (by decide) ?_
      refine zr_isub (pc := 33) h dX12_under_33 ?_
      refine zr_i2l (pc := 34) h dX12_under_34 ?_
      obtain ⟨x4, ex4, hf⟩ := zBd_s hf
      refine zm_X12_56 (pc := 35) h ⟨by decide, by decide⟩ (cX12_isIn_ok ex4) rfl (Nat.le_of_ble_eq_true rfl) dX12_under_35 rfl ?_
      have hf := zIf_s hf
      refine zr_if_eq (pc := 38) (tgt := 51) h dX12_under_38 rfl (fun b13 => ?_) (fun b13 => ?_)
      · have hf := hf.1 b13
        refine zr_iconst (pc := 51) (v := (-1 : Int32)) h dX12_under_51 (by decide) ?_
        exact zr_iret (pc := 52) h dX12_under_52 (zRp hf).1 (zRp hf).2
      · have hf := hf.2 b13
        refine zr_aload_n (pc := 41) h dX12_under_41 rfl rfl ?_
        refine zr_sipush (pc := 42) (v := (300 : Int32)) h dX12_under_42 (by decide) ?_
        obtain ⟨x5, ex5, hf⟩ := zBd_s hf
        refine zm_X12_393 (pc := 45) h gkc_267 ⟨by decide, by decide⟩ (cX12_canGo_ok ex5) rfl (Nat.le_of_ble_eq_true rfl) dX12_under_45 rfl ?_
        have hf := zIf_s hf
        refine zr_if_ne (pc := 48) (tgt := 53) h dX12_under_48 rfl (fun b12 => ?_) (fun b12 => ?_)
        · have hf := hf.2 b12
          refine zr_aload_n (pc := 53) h dX12_under_53 rfl rfl ?_
          obtain ⟨μ6, eμ6, hf⟩ := zBd_s hf
          refine zm_X12_396 (pc := 54) h gkc_267 ⟨by decide, by decide⟩ (cX12_toPaper_ok eμ6) rfl (Nat.le_of_ble_eq_true rfl) dX12_under_54 rfl ?_
          refine zr_aload_n (pc := 57) h dX12_under_57 rfl rfl ?_
          refine zf_X12_27 (pc := 58) h gkc_267 dX12_under_58 ?_
          refine zr_iconst (pc := 61) (v := (2 : Int32)) h dX12_under_61 (by decide) ?_
          refine zr_iload_n (pc := 62) h dX12_under_62 rfl rfl ?_
          refine zr_iast (pc := 63) (q := 2) h gkc_272 rfl (by decide) dX12_under_63 ?_
          refine zr_mu h (fun μ7 eμ7 => ?_)
          have hf := zLt_s eμ7 hf
          refine zr_aload_n (pc := 64) h dX12_under_64 rfl rfl ?_
          refine zr_sipush (pc := 65) (v := (300 : Int32)) h dX12_under_65 (by decide) ?_
          obtain ⟨μ8, eμ8, hf⟩ := zBd_s hf
          refine zm_X12_399 (pc := 68) h gkc_267 ⟨by decide, by decide⟩ (cX12_goes_ok eμ8) rfl (Nat.le_of_ble_eq_true rfl) dX12_under_68 rfl ?_
          refine zr_aload_n (pc := 71) h dX12_under_71 rfl rfl ?_
          refine zr_aload_n (pc := 72) h dX12_under_72 rfl rfl ?_
          refine zr_iload_n (pc := 73) h dX12_under_73 rfl rfl ?_
          refine zr_iload_n (pc := 74) h dX12_under_74 rfl rfl ?_
          obtain ⟨x9, ex9, hf⟩ := zBd_s hf
          refine zm_X12_382 (pc := 75) h gkc_267 ⟨by decide, by decide⟩ (cX12_holderOf_ok ex9) rfl (Nat.le_of_ble_eq_true rfl) dX12_under_75 rfl ?_
          obtain ⟨x10, μ11, ex10, hf⟩ := zBp_s hf
          refine zm_X12_402 (pc := 78) h gkc_267 ⟨by decide, by decide⟩ (cX12_fromPaper_ok ex10) rfl (Nat.le_of_ble_eq_true rfl) dX12_under_78 rfl ?_
          exact zr_iret (pc := 81) h dX12_under_81 (zRp hf).1 (zRp hf).2
        · have hf := hf.1 b12
          refine zr_iconst (pc := 51) (v := (-1 : Int32)) h dX12_under_51 (by decide) ?_
          exact zr_iret (pc := 52) h dX12_under_52 (zRp hf).1 (zRp hf).2

set_option maxRecDepth 100000 in
set_option maxHeartbeats 4000000 in
theorem fX12_rank_l40_ok {l : Launch} {g : gG} {r : Int32} {ν : gM} {K : gKt} (h : gR l g cX12_rank RX12 6 (some .int) (gRm 3 69) (some (.int r)) ν K) : ∀ (n : Nat) (y1 : Int32) (y2 : Int32) (y3 : Int32) (y4 : Int32) (y5 : Int32) (μ : gM), fX12_rank_l40 n y1 y2 y3 y4 y5 μ = some (r, ν) → K 40 [some (.ref (g.1 + 267)), some (.int y1), some (.int y2), some (.int y3), some (.int y4), some (.int y5)] [] μ := by
  intro n
  induction n with
  | zero =>
    intro y1 y2 y3 y4 y5 μ hf
    cases (show (none : Option (Int32 × gM)) = some _ from hf)
  | succ n ih =>
    intro y1 y2 y3 y4 y5 μ hf
    unfold fX12_rank_l40 at hf
    refine zr_iload (pc := 40) h dX12_rank_40 rfl ?_
    refine zr_iload_n (pc := 42) h dX12_rank_42 rfl rfl ?_
    have hf := zIf_s hf
    refine zr_icmp_ge (pc := 43) (tgt := 75) h dX12_rank_43 rfl (fun b10 => ?_) (fun b10 => ?_)
    · have hf := hf.1 b10
      refine zr_iload (pc := 75) h dX12_rank_75 rfl ?_
      exact zr_iret (pc := 77) h dX12_rank_77 (zRp hf).1 (zRp hf).2
    · have hf := hf.2 b10
      refine zr_iload (pc := 46) h dX12_rank_46 rfl ?_
      refine zr_iconst (pc := 48) (v := (-1 : Int32)) h dX12_rank_48 (by decide) ?_
      have hf := zIf_s hf
      refine zr_icmp_eq (pc := 49) (tgt := 75) h dX12_rank_49 rfl (fun b9 => ?_) (fun b9 => ?_)
      · have hf := hf.1 b9
        refine zr_iload (pc := 75) h dX12_rank_75 rfl ?_
        exact zr_iret (pc := 77) h dX12_rank_77 (zRp hf).1 (zRp hf).2
      · have hf := hf.2 b9
        refine zr_iload_n (pc := 52) h dX12_rank_52 rfl rfl ?_
        refine zr_iconst (pc := 53) (v := (1 : Int32)) h dX12_rank_53 (by decide) ?_
        refine zr_iload (pc := 54) h dX12_rank_54 rfl ?_
        refine zr_ishl (pc := 56) h dX12_rank_56 ?_
        refine zr_iconst (pc := 57) (v := (-1 : Int32)) h dX12_rank_57 (by decide) ?_
        refine zr_ixor (pc := 58) h dX12_rank_58 ?_
        refine zr_iand (pc := 59) h dX12_rank_59 ?_
        refine zr_topi h (fun x6 ex6 => ?_)
        have hf := zLt_s ex6 hf
        refine zr_istore_n (pc := 60) h dX12_rank_60 rfl (by decide) rfl ?_
        refine zr_aload_n (pc := 61) h dX12_rank_61 rfl rfl ?_
        refine zr_iload_n (pc := 62) h dX12_rank_62 rfl rfl ?_
        refine zr_iload_n (pc := 63) h dX12_rank_63 rfl rfl ?_
        obtain ⟨x7, ex7, hf⟩ := zBd_s hf
        refine zm_X12_379 (pc := 64) h gkc_267 ⟨by decide, by decide⟩ (cX12_strongestOf_ok ex7) rfl (Nat.le_of_ble_eq_true rfl) dX12_rank_64 rfl ?_
        refine zr_istore (pc := 67) h dX12_rank_67 (by decide) rfl ?_
        refine zr_iincx (pc := 69) h dX12_rank_69 rfl (by decide) rfl (c := (1 : Int32)) (by decide) (fun x8 ex8 => ?_)
        have hf := zLt_s ex8 hf
        refine zr_goto (pc := 72) (tgt := 40) h dX12_rank_72 rfl ?_
        exact zr_weak h [true, true, true, true, true, true] (ih _ _ _ _ _ _ hf)

set_option maxRecDepth 100000 in
set_option maxHeartbeats 4000000 in
theorem cX12_rank_ok {l : Launch} {g : gG} {a1 : Int32} {a2 : Int32} {μ : gM} {r : Int32} {ν : gM} (hf : fX12_rank a1 a2 μ = some (r, ν)) : gMet l g yX12_rank cX12_rank 6 (some .int) 3 69 [.ref (g.1 + 267), .int a1, .int a2] μ (some (.int r)) ν := by
  refine gMet_of (gIni [.ref (g.1 + 267), .int a1, .int a2] ++ List.replicate 3 none) (by decide) (gIni_ok _ _) (Nat.le_of_ble_eq_true rfl) (fun K h => ?_)
  show K 0 [some (.ref (g.1 + 267)), some (.int a1), some (.int a2), none, none, none] [] μ
  unfold fX12_rank at hf
  refine zr_aload_n (pc := 0) h dX12_rank_0 rfl rfl ?_
  refine zr_iconst (pc := 1) (v := (0 : Int32)) h dX12_rank_1 (by decide) ?_
  refine zp_X12_46 (pc := 2) h gkc_267 dX12_rank_2 ?_
  refine zr_mu h (fun μ1 eμ1 => ?_)
  have hf := zLt_s eμ1 hf
  refine zr_aload_n (pc := 5) h dX12_rank_5 rfl rfl ?_
  refine zr_iload_n (pc := 6) h dX12_rank_6 rfl rfl ?_
  obtain ⟨x2, ex2, hf⟩ := zBd_s hf
  refine zm_X12_259 (pc := 7) h gkc_267 ⟨by decide, by decide⟩ (cX12_isGroup_ok ex2) rfl (Nat.le_of_ble_eq_true rfl) dX12_rank_7 rfl ?_
  have hf := zIf_s hf
  refine zr_if_eq (pc := 10) (tgt := 17) h dX12_rank_10 rfl (fun b12 => ?_) (fun b12 => ?_)
  · have hf := hf.1 b12
    refine zr_iconst (pc := 17) (v := (-1 : Int32)) h dX12_rank_17 (by decide) ?_
    exact zr_iret (pc := 18) h dX12_rank_18 (zRp hf).1 (zRp hf).2
  · have hf := hf.2 b12
    refine zr_iload_n (pc := 13) h dX12_rank_13 rfl rfl ?_
    have hf := zIf_s hf
    refine zr_if_ge (pc := 14) (tgt := 19) h dX12_rank_14 rfl (fun b11 => ?_) (fun b11 => ?_)
    · have hf := hf.1 b11
      refine zr_aload_n (pc := 19) h dX12_rank_19 rfl rfl ?_
      refine zf_X12_17 (pc := 20) h gkc_267 dX12_rank_20 ?_
      refine zr_bipush (pc := 23) (v := (48 : Int32)) h dX12_rank_23 (by decide) ?_
      refine zr_iload_n (pc := 25) h dX12_rank_25 rfl rfl ?_
      refine zr_iadd (pc := 26) h dX12_rank_26 ?_
      obtain ⟨q3, hf⟩ := zCk_s hf
      refine zr_iald (pc := 27) h gkc_269 q3 rfl dX12_rank_27 ?_
      refine zr_topi h (fun x4 ex4 => ?_)
      have hf := zLt_s ex4 hf
      refine zr_istore_n (pc := 28) h dX12_rank_28 rfl (by decide) rfl ?_
      refine zr_aload_n (pc := 29) h dX12_rank_29 rfl rfl ?_
      refine zr_iload_n (pc := 30) h dX12_rank_30 rfl rfl ?_
      refine zr_iload_n (pc := 31) h dX12_rank_31 rfl rfl ?_
      obtain ⟨x5, ex5, hf⟩ := zBd_s hf
      refine zm_X12_379 (pc := 32) h gkc_267 ⟨by decide, by decide⟩ (cX12_strongestOf_ok ex5) rfl (Nat.le_of_ble_eq_true rfl) dX12_rank_32 rfl ?_
      refine zr_istore (pc := 35) h dX12_rank_35 (by decide) rfl ?_
      refine zr_iconst (pc := 37) (v := (0 : Int32)) h dX12_rank_37 (by decide) ?_
      refine zr_istore (pc := 38) h dX12_rank_38 (by decide) rfl ?_
      exact zr_weak h [true, true, true, true, true, true] (fX12_rank_l40_ok h 100000 _ _ _ _ _ _ hf)
    · have hf := hf.2 b11
      refine zr_iconst (pc := 17) (v := (-1 : Int32)) h dX12_rank_17 (by decide) ?_
      exact zr_iret (pc := 18) h dX12_rank_18 (zRp hf).1 (zRp hf).2

set_option maxRecDepth 100000 in
set_option maxHeartbeats 4000000 in
theorem cX12_log_ok {l : Launch} {g : gG} {a1 : Int32} {a2 : Int32} {μ : gM} {r : Int32} {ν : gM} (hf : fX12_log a1 a2 μ = some (r, ν)) : gMet l g yX12_log cX12_log 3 (some .int) 1 25 [.ref (g.1 + 267), .int a1, .int a2] μ (some (.int r)) ν := by
  refine gMet_of (gIni [.ref (g.1 + 267), .int a1, .int a2] ++ List.replicate 0 none) (by decide) (gIni_ok _ _) (Nat.le_of_ble_eq_true rfl) (fun K h => ?_)
  show K 0 [some (.ref (g.1 + 267)), some (.int a1), some (.int a2)] [] μ
  unfold fX12_log at hf
  refine zr_aload_n (pc := 0) h dX12_log_0 rfl rfl ?_
  refine zr_iconst (pc := 1) (v := (0 : Int32)) h dX12_log_1 (by decide) ?_
  refine zp_X12_46 (pc := 2) h gkc_267 dX12_log_2 ?_
  refine zr_mu h (fun μ1 eμ1 => ?_)
  have hf := zLt_s eμ1 hf
  refine zr_iload_n (pc := 5) h dX12_log_5 rfl rfl ?_
  refine zr_i2l (pc := 6) h dX12_log_6 ?_
  refine zr_lconst (pc := 7) (v := (0 : Int64)) h dX12_log_7 (by decide) ?_
  refine zr_aload_n (pc := 8) h dX12_log_8 rfl rfl ?_
  refine zf_X12_27 (pc := 9) h gkc_267 dX12_log_9 ?_
  refine zr_bipush (pc := 12) (v := (7 : Int32)) h dX12_log_12 (by decide) ?_
  refine zr_iald (pc := 14) (q := 7) h gkc_272 rfl (by decide) dX12_log_14 ?_
  refine zr_iconst (pc := 15) (v := (1 : Int32)) h dX12_log_15 (by decide) ?_
  refine zr_isub (pc := 16) h dX12_log_16 ?_
  refine zr_i2l (pc := 17) h dX12_log_17 ?_
  obtain ⟨x2, ex2, hf⟩ := zBd_s hf
  refine zm_X12_56 (pc := 18) h ⟨by decide, by decide⟩ (cX12_isIn_ok ex2) rfl (Nat.le_of_ble_eq_true rfl) dX12_log_18 rfl ?_
  have hf := zIf_s hf
  refine zr_if_eq (pc := 21) (tgt := 53) h dX12_log_21 rfl (fun b6 => ?_) (fun b6 => ?_)
  · have hf := hf.1 b6
    refine zr_iconst (pc := 53) (v := (-1 : Int32)) h dX12_log_53 (by decide) ?_
    exact zr_iret (pc := 54) h dX12_log_54 (zRp hf).1 (zRp hf).2
  · have hf := hf.2 b6
    refine zr_iload_n (pc := 24) h dX12_log_24 rfl rfl ?_
    refine zr_i2l (pc := 25) h dX12_log_25 ?_
    refine zr_lconst (pc := 26) (v := (0 : Int64)) h dX12_log_26 (by decide) ?_
    refine zr_ldc2 (pc := 27) h zw_1729 dX12_log_27 ?_
    obtain ⟨x3, ex3, hf⟩ := zBd_s hf
    refine zm_X12_56 (pc := 30) h ⟨by decide, by decide⟩ (cX12_isIn_ok ex3) rfl (Nat.le_of_ble_eq_true rfl) dX12_log_30 rfl ?_
    have hf := zIf_s hf
    refine zr_if_eq (pc := 33) (tgt := 53) h dX12_log_33 rfl (fun b5 => ?_) (fun b5 => ?_)
    · have hf := hf.1 b5
      refine zr_iconst (pc := 53) (v := (-1 : Int32)) h dX12_log_53 (by decide) ?_
      exact zr_iret (pc := 54) h dX12_log_54 (zRp hf).1 (zRp hf).2
    · have hf := hf.2 b5
      refine zr_aload_n (pc := 36) h dX12_log_36 rfl rfl ?_
      refine zf_X12_27 (pc := 37) h gkc_267 dX12_log_37 ?_
      refine zr_sipush (pc := 40) (v := (245 : Int32)) h dX12_log_40 (by decide) ?_
      refine zr_iconst (pc := 43) (v := (4 : Int32)) h dX12_log_43 (by decide) ?_
      refine zr_iload_n (pc := 44) h dX12_log_44 rfl rfl ?_
      refine zr_imul (pc := 45) h dX12_log_45 ?_
      refine zr_iadd (pc := 46) h dX12_log_46 ?_
      refine zr_iload_n (pc := 47) h dX12_log_47 rfl rfl ?_
      refine zr_iadd (pc := 48) h dX12_log_48 ?_
      obtain ⟨q4, hf⟩ := zCk_s hf
      refine zr_iald (pc := 49) h gkc_272 q4 rfl dX12_log_49 ?_
      refine zr_goto (pc := 50) (tgt := 54) h dX12_log_50 rfl ?_
      exact zr_iret (pc := 54) h dX12_log_54 (zRp hf).1 (zRp hf).2

set_option maxRecDepth 100000 in
set_option maxHeartbeats 4000000 in
theorem cX12_undo_ok {l : Launch} {g : gG} {μ : gM} {r : Int32} {ν : gM} (hf : fX12_undo μ = some (r, ν)) : gMet l g yX12_undo cX12_undo 1 (some .int) 1 22 [.ref (g.1 + 267)] μ (some (.int r)) ν := by
  refine gMet_of (gIni [.ref (g.1 + 267)] ++ List.replicate 0 none) (by decide) (gIni_ok _ _) (Nat.le_of_ble_eq_true rfl) (fun K h => ?_)
  show K 0 [some (.ref (g.1 + 267))] [] μ
  unfold fX12_undo at hf
  refine zr_aload_n (pc := 0) h dX12_undo_0 rfl rfl ?_
  refine zr_iconst (pc := 1) (v := (0 : Int32)) h dX12_undo_1 (by decide) ?_
  refine zp_X12_46 (pc := 2) h gkc_267 dX12_undo_2 ?_
  refine zr_mu h (fun μ1 eμ1 => ?_)
  have hf := zLt_s eμ1 hf
  refine zr_aload_n (pc := 5) h dX12_undo_5 rfl rfl ?_
  refine zf_X12_224 (pc := 6) h gkc_267 dX12_undo_6 ?_
  have hf := zIf_s hf
  refine zr_if_ne (pc := 9) (tgt := 15) h dX12_undo_9 rfl (fun b5 => ?_) (fun b5 => ?_)
  · have hf := hf.2 b5
    refine zr_aload_n (pc := 15) h dX12_undo_15 rfl rfl ?_
    refine zf_X12_228 (pc := 16) h gkc_267 dX12_undo_16 ?_
    have hf := zIf_s hf
    refine zr_if_ne (pc := 19) (tgt := 25) h dX12_undo_19 rfl (fun b4 => ?_) (fun b4 => ?_)
    · have hf := hf.2 b4
      refine zr_aload_n (pc := 25) h dX12_undo_25 rfl rfl ?_
      refine zr_dup (pc := 26) h dX12_undo_26 rfl ?_
      refine zf_X12_228 (pc := 27) h gkc_267 dX12_undo_27 ?_
      refine zr_iconst (pc := 30) (v := (1 : Int32)) h dX12_undo_30 (by decide) ?_
      refine zr_isub (pc := 31) h dX12_undo_31 ?_
      refine zp_X12_228 (pc := 32) h gkc_267 dX12_undo_32 ?_
      refine zr_mu h (fun μ2 eμ2 => ?_)
      have hf := zLt_s eμ2 hf
      refine zr_aload_n (pc := 35) h dX12_undo_35 rfl rfl ?_
      refine zr_aload_n (pc := 36) h dX12_undo_36 rfl rfl ?_
      refine zf_X12_228 (pc := 37) h gkc_267 dX12_undo_37 ?_
      obtain ⟨μ3, eμ3, hf⟩ := zBd_s hf
      refine zm_X12_390 (pc := 40) h gkc_267 ⟨by decide, by decide⟩ (cX12_takesFrom_ok eμ3) rfl (Nat.le_of_ble_eq_true rfl) dX12_undo_40 rfl ?_
      refine zr_aload_n (pc := 43) h dX12_undo_43 rfl rfl ?_
      refine zf_X12_228 (pc := 44) h gkc_267 dX12_undo_44 ?_
      exact zr_iret (pc := 47) h dX12_undo_47 (zRp hf).1 (zRp hf).2
    · have hf := hf.1 b4
      refine zr_bipush (pc := 22) (v := (-3 : Int32)) h dX12_undo_22 (by decide) ?_
      exact zr_iret (pc := 24) h dX12_undo_24 (zRp hf).1 (zRp hf).2
  · have hf := hf.1 b5
    refine zr_bipush (pc := 12) (v := (-2 : Int32)) h dX12_undo_12 (by decide) ?_
    exact zr_iret (pc := 14) h dX12_undo_14 (zRp hf).1 (zRp hf).2

set_option maxRecDepth 100000 in
set_option maxHeartbeats 4000000 in
theorem cX12_keep_ok {l : Launch} {g : gG} {a1 : Int32} {μ : gM} {r : Int32} {ν : gM} (hf : fX12_keep a1 μ = some (r, ν)) : gMet l g yX12_keep cX12_keep 2 (some .int) 1 25 [.ref (g.1 + 267), .int a1] μ (some (.int r)) ν := by
  refine gMet_of (gIni [.ref (g.1 + 267), .int a1] ++ List.replicate 0 none) (by decide) (gIni_ok _ _) (Nat.le_of_ble_eq_true rfl) (fun K h => ?_)
  show K 0 [some (.ref (g.1 + 267)), some (.int a1)] [] μ
  unfold fX12_keep at hf
  refine zr_aload_n (pc := 0) h dX12_keep_0 rfl rfl ?_
  refine zr_iconst (pc := 1) (v := (0 : Int32)) h dX12_keep_1 (by decide) ?_
  refine zp_X12_46 (pc := 2) h gkc_267 dX12_keep_2 ?_
  refine zr_mu h (fun μ1 eμ1 => ?_)
  have hf := zLt_s eμ1 hf
  refine zr_iload_n (pc := 5) h dX12_keep_5 rfl rfl ?_
  refine zr_i2l (pc := 6) h dX12_keep_6 ?_
  refine zr_lconst (pc := 7) (v := (0 : Int64)) h dX12_keep_7 (by decide) ?_
  refine zr_lconst (pc := 8) (v := (1 : Int64)) h dX12_keep_8 (by decide) ?_
  obtain ⟨x2, ex2, hf⟩ := zBd_s hf
  refine zm_X12_56 (pc := 9) h ⟨by decide, by decide⟩ (cX12_isIn_ok ex2) rfl (Nat.le_of_ble_eq_true rfl) dX12_keep_9 rfl ?_
  have hf := zIf_s hf
  refine zr_if_eq (pc := 12) (tgt := 22) h dX12_keep_12 rfl (fun b7 => ?_) (fun b7 => ?_)
  · have hf := hf.1 b7
    refine zr_bipush (pc := 22) (v := (-2 : Int32)) h dX12_keep_22 (by decide) ?_
    exact zr_iret (pc := 24) h dX12_keep_24 (zRp hf).1 (zRp hf).2
  · have hf := hf.2 b7
    refine zr_aload_n (pc := 15) h dX12_keep_15 rfl rfl ?_
    refine zf_X12_224 (pc := 16) h gkc_267 dX12_keep_16 ?_
    have hf := zIf_s hf
    refine zr_if_ne (pc := 19) (tgt := 25) h dX12_keep_19 rfl (fun b6 => ?_) (fun b6 => ?_)
    · have hf := hf.2 b6
      refine zr_aload_n (pc := 25) h dX12_keep_25 rfl rfl ?_
      refine zr_bipush (pc := 26) (v := (12 : Int32)) h dX12_keep_26 (by decide) ?_
      refine zr_iload_n (pc := 28) h dX12_keep_28 rfl rfl ?_
      refine zr_iadd (pc := 29) h dX12_keep_29 ?_
      obtain ⟨μ3, eμ3, hf⟩ := zBd_s hf
      refine zm_X12_250 (pc := 30) h gkc_267 ⟨by decide, by decide⟩ (cX12_putsTo_ok eμ3) rfl (Nat.le_of_ble_eq_true rfl) dX12_keep_30 rfl ?_
      refine zr_aload_n (pc := 33) h dX12_keep_33 rfl rfl ?_
      refine zf_X12_33 (pc := 34) h gkc_267 dX12_keep_34 ?_
      refine zr_iload_n (pc := 37) h dX12_keep_37 rfl rfl ?_
      refine zr_iconst (pc := 38) (v := (1 : Int32)) h dX12_keep_38 (by decide) ?_
      obtain ⟨q4, hf⟩ := zCk_s hf
      refine zr_zast (pc := 39) (x' := (1 : Int32)) h gkc_274 q4 rfl (by decide) dX12_keep_39 ?_
      refine zr_mu h (fun μ5 eμ5 => ?_)
      have hf := zLt_s eμ5 hf
      refine zr_aload_n (pc := 40) h dX12_keep_40 rfl rfl ?_
      refine zf_X12_27 (pc := 41) h gkc_267 dX12_keep_41 ?_
      refine zr_iconst (pc := 44) (v := (0 : Int32)) h dX12_keep_44 (by decide) ?_
      refine zr_iald (pc := 45) (q := 0) h gkc_272 rfl (by decide) dX12_keep_45 ?_
      exact zr_iret (pc := 46) h dX12_keep_46 (zRp hf).1 (zRp hf).2
    · have hf := hf.1 b6
      refine zr_bipush (pc := 22) (v := (-2 : Int32)) h dX12_keep_22 (by decide) ?_
      exact zr_iret (pc := 24) h dX12_keep_24 (zRp hf).1 (zRp hf).2

set_option maxRecDepth 100000 in
set_option maxHeartbeats 4000000 in
theorem cX12_back_ok {l : Launch} {g : gG} {a1 : Int32} {μ : gM} {r : Int32} {ν : gM} (hf : fX12_back a1 μ = some (r, ν)) : gMet l g yX12_back cX12_back 2 (some .int) 1 25 [.ref (g.1 + 267), .int a1] μ (some (.int r)) ν := by
  refine gMet_of (gIni [.ref (g.1 + 267), .int a1] ++ List.replicate 0 none) (by decide) (gIni_ok _ _) (Nat.le_of_ble_eq_true rfl) (fun K h => ?_)
  show K 0 [some (.ref (g.1 + 267)), some (.int a1)] [] μ
  unfold fX12_back at hf
  refine zr_aload_n (pc := 0) h dX12_back_0 rfl rfl ?_
  refine zr_iconst (pc := 1) (v := (0 : Int32)) h dX12_back_1 (by decide) ?_
  refine zp_X12_46 (pc := 2) h gkc_267 dX12_back_2 ?_
  refine zr_mu h (fun μ1 eμ1 => ?_)
  have hf := zLt_s eμ1 hf
  refine zr_iload_n (pc := 5) h dX12_back_5 rfl rfl ?_
  refine zr_i2l (pc := 6) h dX12_back_6 ?_
  refine zr_lconst (pc := 7) (v := (0 : Int64)) h dX12_back_7 (by decide) ?_
  refine zr_lconst (pc := 8) (v := (1 : Int64)) h dX12_back_8 (by decide) ?_
  obtain ⟨x2, ex2, hf⟩ := zBd_s hf
  refine zm_X12_56 (pc := 9) h ⟨by decide, by decide⟩ (cX12_isIn_ok ex2) rfl (Nat.le_of_ble_eq_true rfl) dX12_back_9 rfl ?_
  have hf := zIf_s hf
  refine zr_if_eq (pc := 12) (tgt := 22) h dX12_back_12 rfl (fun b8 => ?_) (fun b8 => ?_)
  · have hf := hf.1 b8
    refine zr_bipush (pc := 22) (v := (-2 : Int32)) h dX12_back_22 (by decide) ?_
    exact zr_iret (pc := 24) h dX12_back_24 (zRp hf).1 (zRp hf).2
  · have hf := hf.2 b8
    refine zr_aload_n (pc := 15) h dX12_back_15 rfl rfl ?_
    refine zf_X12_224 (pc := 16) h gkc_267 dX12_back_16 ?_
    have hf := zIf_s hf
    refine zr_if_ne (pc := 19) (tgt := 25) h dX12_back_19 rfl (fun b7 => ?_) (fun b7 => ?_)
    · have hf := hf.2 b7
      refine zr_aload_n (pc := 25) h dX12_back_25 rfl rfl ?_
      refine zf_X12_33 (pc := 26) h gkc_267 dX12_back_26 ?_
      refine zr_iload_n (pc := 29) h dX12_back_29 rfl rfl ?_
      obtain ⟨q3, hf⟩ := zCk_s hf
      refine zr_zald (pc := 30) h gkc_274 q3 rfl dX12_back_30 ?_
      have hf := zIf_s hf
      refine zr_if_ne (pc := 31) (tgt := 37) h dX12_back_31 rfl (fun b6 => ?_) (fun b6 => ?_)
      · have hf := hf.2 b6
        refine zr_aload_n (pc := 37) h dX12_back_37 rfl rfl ?_
        refine zr_bipush (pc := 38) (v := (12 : Int32)) h dX12_back_38 (by decide) ?_
        refine zr_iload_n (pc := 40) h dX12_back_40 rfl rfl ?_
        refine zr_iadd (pc := 41) h dX12_back_41 ?_
        obtain ⟨μ4, eμ4, hf⟩ := zBd_s hf
        refine zm_X12_390 (pc := 42) h gkc_267 ⟨by decide, by decide⟩ (cX12_takesFrom_ok eμ4) rfl (Nat.le_of_ble_eq_true rfl) dX12_back_42 rfl ?_
        refine zr_aload_n (pc := 45) h dX12_back_45 rfl rfl ?_
        refine zr_iconst (pc := 46) (v := (0 : Int32)) h dX12_back_46 (by decide) ?_
        refine zp_X12_228 (pc := 47) h gkc_267 dX12_back_47 ?_
        refine zr_mu h (fun μ5 eμ5 => ?_)
        have hf := zLt_s eμ5 hf
        refine zr_aload_n (pc := 50) h dX12_back_50 rfl rfl ?_
        refine zf_X12_27 (pc := 51) h gkc_267 dX12_back_51 ?_
        refine zr_iconst (pc := 54) (v := (0 : Int32)) h dX12_back_54 (by decide) ?_
        refine zr_iald (pc := 55) (q := 0) h gkc_272 rfl (by decide) dX12_back_55 ?_
        exact zr_iret (pc := 56) h dX12_back_56 (zRp hf).1 (zRp hf).2
      · have hf := hf.1 b6
        refine zr_bipush (pc := 34) (v := (-3 : Int32)) h dX12_back_34 (by decide) ?_
        exact zr_iret (pc := 36) h dX12_back_36 (zRp hf).1 (zRp hf).2
    · have hf := hf.1 b7
      refine zr_bipush (pc := 22) (v := (-2 : Int32)) h dX12_back_22 (by decide) ?_
      exact zr_iret (pc := 24) h dX12_back_24 (zRp hf).1 (zRp hf).2

