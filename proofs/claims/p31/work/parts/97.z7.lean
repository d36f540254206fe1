/-! slot, slots, host, load: answers alike -/
theorem LIVE.cm {μ ξ μ' ξ' : gM} (h : LIVE μ ξ) (c : CFs μ μ') (m : MFs ξ ξ') : LIVE μ' ξ' := h.mv3 (fun a _ h2 => c a (by omega) (by omega)) (m 269 (by decide) (by decide)) ⟨fun i _ => by rw [m 272 (by decide) (by decide)], fun i _ => by rw [m 273 (by decide) (by decide)], m 274 (by decide) (by decide), by rw [m 267 (by decide) (by decide)]⟩
theorem cOwner {j : Nat} {μ : gM} (hj : j < 8) : fX8_ownerOf (nI j) μ = some (μ 265 j) := by
  unfold fX8_ownerOf
  rw [if_neg (fun w => by have := Int32.lt_iff_toInt_lt.mp w; rw [tN (by omega)] at this; have z : (0 : Int32).toInt = 0 := rfl; omega), if_neg (fun w => by have := (le8 (by omega)).mp w; omega), ckT (gI hj (by decide)), nI_clamp (by omega)]
theorem pSlotA {a1 a2 a3 : Int32} {μ ξ : gM} (h : LIVE μ ξ) : ∃ v μ' ξ', fX11_slot a1 a2 a3 μ = some (v, μ') ∧ fX12_slot a1 a2 a3 ξ = some (v, ξ') ∧ LIVE μ' ξ' := by
  have l0 := h.u0
  unfold fX11_slot fX12_slot
  rw [zLt_eq]
  generalize gUp ξ 267 0 0 = ζ at l0 ⊢
  obtain ⟨cn, cl, cg, ct, nc⟩ := l0.nc
  obtain ⟨⟨⟨c, n, ⟨⟨nt, nu, mw, ax⟩, grs, cns⟩, pln, -⟩, -⟩, -, ps⟩ := id l0
  have b5 := nc.1.2.2.1
  rcases pairG (a1 := a1) (a2 := a2) nc with ⟨g, k, hg, hk, rfl, rfl, g1, g2, g3⟩ | ⟨g1, g2 | ⟨g2, g3⟩⟩
  · obtain ⟨sl, μ', ξ', e1, e2, e3, e4, f1, f2, f3, f4, f5, f6⟩ := pLaySl nt nc nu.2.2.2.1 nu.2.1 (grs g (by omega)) hg hk
    rw [g1, g2, zBd_some, zBd_some, if_neg one_n0, if_neg one_n0, g3, zBd_some, if_neg one_n0, ckT (gI (N := 5) (by omega) (by decide)), nI_clamp (by omega), e3, cIn' (by omega), ckT (ig (x := 43) (b := 43) (N := 209) (by omega) (by decide) rfl), ix (x := 43) (b := 43) (by omega) rfl, e4, mIn32 _ (y := 0) rfl (m1_64 (by omega)), zBd_some]
    by_cases d : 0 ≤ a3.toInt ∧ a3.toInt ≤ (sl : Int) - 1
    · obtain ⟨j, hj, rfl⟩ := (inB (by omega)).mp d
      rw [if_pos d, if_pos d, if_neg one_n0, f1, f2, zBd_some, zBd_some, cOwner (by omega), zBd_some, ckT (gI (by omega) (by decide)), nI_clamp (by omega), f5 j hj]
      exact ⟨_, _, _, rfl, rfl, l0.cm f3 f4⟩
    · rw [if_neg d, if_neg d, if_pos rfl]
      exact ⟨_, _, _, rfl, rfl, l0⟩
  · rw [g1, g2, zBd_some, zBd_some, if_pos rfl, if_pos rfl]
    exact ⟨_, _, _, rfl, rfl, l0⟩
  · rw [g1, g2, zBd_some, zBd_some, if_pos rfl, if_neg one_n0, g3, zBd_some, if_pos rfl]
    exact ⟨_, _, _, rfl, rfl, l0⟩
theorem pSlotsA {a1 a2 : Int32} {μ ξ : gM} (h : LIVE μ ξ) : ∃ v μ' ξ', fX11_slots a1 a2 μ = some (v, μ') ∧ fX12_slots a1 a2 ξ = some (v, ξ') ∧ LIVE μ' ξ' := by
  have l0 := h.u0
  unfold fX11_slots fX12_slots
  rw [zLt_eq]
  generalize gUp ξ 267 0 0 = ζ at l0 ⊢
  obtain ⟨cn, cl, cg, ct, nc⟩ := l0.nc
  obtain ⟨⟨⟨c, n, ⟨⟨nt, nu, mw, ax⟩, grs, cns⟩, pln, -⟩, -⟩, -, ps⟩ := id l0
  have b5 := nc.1.2.2.1
  have b6 := nc.1.1
  rcases pairG (a1 := a1) (a2 := a2) nc with ⟨g, k, hg, hk, rfl, rfl, g1, g2, g3⟩ | ⟨g1, g2 | ⟨g2, g3⟩⟩
  · obtain ⟨sl, μ', ξ', e1, e2, e3, e4, f1, f2, f3, f4, f5, f6⟩ := pLaySl nt nc nu.2.2.2.1 nu.2.1 (grs g (by omega)) hg hk
    have gk' : gIn (nI k) 6 = true := gI (by omega) (by decide)
    rw [g1, g2, zBd_some, zBd_some, if_neg one_n0, if_neg one_n0, g3, zBd_some, if_neg one_n0, f1, f2, zBd_some, zBd_some, ckT gk', ckT gk', nI_clamp (by omega), f6 k (by omega)]
    exact ⟨_, _, _, rfl, rfl, l0.cm f3 f4⟩
  · rw [g1, g2, zBd_some, zBd_some, if_pos rfl, if_pos rfl]
    exact ⟨_, _, _, rfl, rfl, l0⟩
  · rw [g1, g2, zBd_some, zBd_some, if_pos rfl, if_neg one_n0, g3, zBd_some, if_pos rfl]
    exact ⟨_, _, _, rfl, rfl, l0⟩
theorem remN {a : Int32} {sl : Nat} (h0 : 0 ≤ a.toInt) (h1 : 1 ≤ sl) (h8 : sl ≤ 8) : ∃ j, j < sl ∧ a - a / nI sl * nI sl = nI j := by
  have ba := (i32b a).2
  obtain ⟨A, hA⟩ : ∃ A : Nat, a.toInt = A := ⟨a.toInt.toNat, by omega⟩
  have ea : a = nI A := nI_of' hA
  have q1 : A / sl * sl ≤ A := Nat.div_mul_le_self A sl
  have q2 : A % sl = A - A / sl * sl := by have := Nat.div_add_mod A sl; rw [Nat.mul_comm] at this; omega
  have q3 : A % sl < sl := Nat.mod_lt A (by omega)
  refine ⟨A - A / sl * sl, by omega, ?_⟩
  rw [ea, pk_div (by omega) (by omega) (by omega), pk_mul, pk_sub q1]
theorem pHostA {a1 a2 a3 : Int32} {μ ξ : gM} (h : LIVE μ ξ) : ∃ v μ' ξ', fX11_host a1 a2 a3 μ = some (v, μ') ∧ fX12_host a1 a2 a3 ξ = some (v, ξ') ∧ LIVE μ' ξ' := by
  have l0 := h.u0
  unfold fX11_host fX12_host
  rw [zLt_eq]
  generalize gUp ξ 267 0 0 = ζ at l0 ⊢
  obtain ⟨cn, cl, cg, ct, nc⟩ := l0.nc
  obtain ⟨⟨⟨c, n, ⟨⟨nt, nu, mw, ax⟩, grs, cns⟩, pln, -⟩, -⟩, -, ps⟩ := id l0
  have b5 := nc.1.2.2.1
  have z0 : (0 : Int32).toInt = 0 := rfl
  rcases pairG (a1 := a1) (a2 := a2) nc with ⟨g, k, hg, hk, rfl, rfl, g1, g2, g3⟩ | ⟨g1, g2 | ⟨g2, g3⟩⟩
  · obtain ⟨sl, μ', ξ', e1, e2, e3, e4, f1, f2, f3, f4, f5, f6⟩ := pLaySl nt nc nu.2.2.2.1 nu.2.1 (grs g (by omega)) hg hk
    rw [g1, g2, zBd_some, zBd_some, if_neg one_n0, if_neg one_n0, g3, zBd_some, if_neg one_n0]
    by_cases d : a3 < 0
    · have := Int32.lt_iff_toInt_lt.mp d
      rw [if_pos d, if_neg (fun w => by have := Int32.le_iff_toInt_le.mp w; omega)]
      exact ⟨_, _, _, rfl, rfl, l0⟩
    · have d' : ¬ a3.toInt < (0 : Int32).toInt := fun w => d (Int32.lt_iff_toInt_lt.mpr w)
      have gi : gIn (nI g) 5 = true := gI (by omega) (by decide)
      have ns : (!decide (nI sl = (0 : Int32))) = true := zNz (by rw [tN (by omega)]; omega)
      obtain ⟨j, hj, ej⟩ := remN (a := a3) (by omega) e1 e2
      have m10 : μ' 10 g = nI sl := by rw [f3 10 (by decide) (by decide)]; exact e3
      have x43 : ξ' 269 (43 + g) = nI sl := by rw [f4 269 (by decide) (by decide)]; exact e4
      rw [if_neg d, if_pos (show (0 : Int32) ≤ a3 from Int32.le_iff_toInt_le.mpr (by omega)), ckT gi, nI_clamp (n := g) (by omega), e3, if_pos ((le1 (by omega)).mpr e1), f1, f2, zBd_some, zBd_some, ckT gi, m10, ckT ns, ej, cOwner (by omega), zBd_some, ckT (ig (x := 43) (b := 43) (N := 209) (by omega) (by decide) rfl), ix (x := 43) (b := 43) (by omega) rfl, x43, ckT ns, ej, ckT (gI (N := 8) (by omega) (by decide)), nI_clamp (n := j) (by omega), f5 j hj]
      exact ⟨_, _, _, rfl, rfl, l0.cm f3 f4⟩
  · rw [g1, g2, zBd_some, zBd_some, if_pos rfl, if_pos rfl]
    exact ⟨_, _, _, rfl, rfl, l0⟩
  · rw [g1, g2, zBd_some, zBd_some, if_pos rfl, if_neg one_n0, g3, zBd_some, if_pos rfl]
    exact ⟨_, _, _, rfl, rfl, l0⟩
theorem pCount_l {sl : Nat} {a2 a3 : Int32} {μ ξ : gM} (h1 : 1 ≤ sl) (h8 : sl ≤ 8) (f5 : SLT sl μ ξ) : ∀ (m i : Nat) (acc : Int32), i ≤ sl → 8 < i + m → ∃ v, fX8_countHosts_l25 m a2 a3 (nI sl) acc (nI i) μ = some v ∧ fX12_load_l58 m a2 a3 (nI sl) acc (nI i) ξ = some (v, ξ) := by
  have ns : (!decide (nI sl = (0 : Int32))) = true := zNz (by rw [tN (by omega)]; omega)
  intro m
  induction m with
  | zero => intro i acc h2 h3; omega
  | succ m ih =>
    intro i acc h2 h3
    rw [fX8_countHosts_l25, fX12_load_l58]
    by_cases c : sl ≤ i
    · have w := (nIle (a := sl) (b := i) (by omega) (by omega)).mpr c
      rw [if_pos w, if_pos w]
      exact ⟨_, rfl, rfl⟩
    · have w : ¬ nI sl ≤ nI i := fun w => c ((nIle (by omega) (by omega)).mp w)
      have e1 : nI i + (1 : Int32) = nI (i + 1) := nI_1 i
      have g8 : gIn (nI i) 8 = true := gI (by omega) (by decide)
      rw [if_neg w, if_neg w, if_neg (fun w => by have := (le8 (by omega)).mp w; omega), ckT g8, ckT g8, nI_clamp (by omega), f5 i (by omega)]
      by_cases d : ξ 276 i = a2
      · rw [if_pos d, if_pos d, ckT ns, ckT ns, ckT ns, ckT ns]
        unfold fX12_load_n96 fX12_flag
        by_cases r : a3 - a3 / nI sl * nI sl ≤ nI i
        · rw [if_pos r, if_pos r, if_pos rfl, zBd_some, zLt_eq, zLt_eq, zLt_eq, zLt_eq, e1]
          exact ih (i + 1) _ (by omega) (by omega)
        · rw [if_neg r, if_neg r, if_neg one_n0, zBd_some, zLt_eq, zLt_eq, zLt_eq, zLt_eq, e1]
          exact ih (i + 1) _ (by omega) (by omega)
      · rw [if_neg d, if_neg d, zLt_eq, zLt_eq, e1]
        exact ih (i + 1) _ (by omega) (by omega)
theorem pLoadA {a1 a2 a3 : Int32} {μ ξ : gM} (h : LIVE μ ξ) : ∃ v μ' ξ', fX11_load a1 a2 a3 μ = some (v, μ') ∧ fX12_load a1 a2 a3 ξ = some (v, ξ') ∧ LIVE μ' ξ' := by
  have l0 := h.u0
  unfold fX11_load fX12_load
  rw [zLt_eq]
  generalize gUp ξ 267 0 0 = ζ at l0 ⊢
  obtain ⟨cn, cl, cg, ct, nc⟩ := l0.nc
  obtain ⟨⟨⟨c, n, ⟨⟨nt, nu, mw, ax⟩, grs, cns⟩, pln, -⟩, -⟩, -, ps⟩ := id l0
  have b5 := nc.1.2.2.1
  have z1 : (1 : Int32).toInt = 1 := rfl
  have z9 : (9999 : Int32).toInt = 9999 := rfl
  rcases pairG (a1 := a1) (a2 := a2) nc with ⟨g, k, hg, hk, rfl, rfl, g1, g2, g3⟩ | ⟨g1, g2 | ⟨g2, g3⟩⟩
  · obtain ⟨sl, μ', ξ', e1, e2, e3, e4, f1, f2, f3, f4, f5, f6⟩ := pLaySl nt nc nu.2.2.2.1 nu.2.1 (grs g (by omega)) hg hk
    rw [g1, g2, zBd_some, zBd_some, if_neg one_n0, if_neg one_n0, g3, zBd_some, if_neg one_n0, mIn32 _ (y := 1) (z := 9999) rfl rfl, zBd_some]
    by_cases d1 : a3 < 1
    · have := Int32.lt_iff_toInt_lt.mp d1
      rw [if_pos d1, if_neg (show ¬ (1 ≤ a3.toInt ∧ a3.toInt ≤ 9999) by omega), if_pos rfl]
      exact ⟨_, _, _, rfl, rfl, l0⟩
    · have d1' : ¬ a3.toInt < (1 : Int32).toInt := fun w => d1 (Int32.lt_iff_toInt_lt.mpr w)
      rw [if_neg d1]
      by_cases d2 : a3 ≤ 9999
      · have := Int32.le_iff_toInt_le.mp d2
        have m10 : μ' 10 g = nI sl := by rw [f3 10 (by decide) (by decide)]; exact e3
        have x43 : ξ' 269 (43 + g) = nI sl := by rw [f4 269 (by decide) (by decide)]; exact e4
        obtain ⟨v, v1, v2⟩ := pCount_l (a2 := nI k) (a3 := a3) e1 e2 f5 100000 0 0 (by omega) (by omega)
        have v1' : fX8_countHosts_l25 100000 (nI k) a3 (nI sl) (0 : Int32) (0 : Int32) μ' = some v := v1
        have v2' : fX12_load_l58 100000 (nI k) a3 (nI sl) (0 : Int32) (0 : Int32) ξ' = some (v, ξ') := v2
        rw [if_pos d2, if_pos (show 1 ≤ a3.toInt ∧ a3.toInt ≤ 9999 by omega), if_neg one_n0, f1, f2, zBd_some, zBd_some]
        unfold fX8_countHosts
        rw [ckT (gI (N := 5) (by omega) (by decide)), nI_clamp (n := g) (by omega), zLt_eq, m10, if_pos ((le1 (by omega)).mpr e1), v1', zBd_some, ckT (ig (x := 43) (b := 43) (N := 209) (by omega) (by decide) rfl), ix (x := 43) (b := 43) (by omega) rfl, zLt_eq, x43, v2']
        exact ⟨_, _, _, rfl, rfl, l0.cm f3 f4⟩
      · have d2' : ¬ a3.toInt ≤ (9999 : Int32).toInt := fun w => d2 (Int32.le_iff_toInt_le.mpr w)
        rw [if_neg d2, if_neg (show ¬ (1 ≤ a3.toInt ∧ a3.toInt ≤ 9999) by omega), if_pos rfl]
        exact ⟨_, _, _, rfl, rfl, l0⟩
  · rw [g1, g2, zBd_some, zBd_some, if_pos rfl, if_pos rfl]
    exact ⟨_, _, _, rfl, rfl, l0⟩
  · rw [g1, g2, zBd_some, zBd_some, if_pos rfl, if_neg one_n0, g3, zBd_some, if_pos rfl]
    exact ⟨_, _, _, rfl, rfl, l0⟩
theorem d_slot {a1 a2 a3 : Int32} {μ : gM} (d : DEAD μ) : ∃ v, fX11_slot a1 a2 a3 μ = some (v, μ) ∧ fX12_slot a1 a2 a3 μ = some (v, gUp μ 267 0 0) := by
  obtain ⟨t, t2, z, nt, ct, nc⟩ := d
  unfold fX11_slot fX12_slot
  rw [zLt_eq]
  rcases pairG (a1 := a1) (a2 := a2) nc with ⟨g, k, hg, -⟩ | ⟨g1, g2 | ⟨g2, g3⟩⟩
  · omega
  · rw [g1, g2, zBd_some, zBd_some, if_pos rfl, if_pos rfl]
    exact ⟨_, rfl, rfl⟩
  · rw [g1, g2, zBd_some, zBd_some, if_pos rfl, if_neg one_n0, g3, zBd_some, if_pos rfl]
    exact ⟨_, rfl, rfl⟩
theorem INV.slot {a1 a2 a3 : Int32} {μ : gM} (h : INV μ) : ∃ (v : Int32) (μ1 μ2 : gM), fX11_slot a1 a2 a3 μ = some (v, μ1) ∧ fX12_slot a1 a2 a3 μ1 = some (v, μ2) ∧ INV μ2 := h.act (tX11_slot h.1.1.1) (fun _ _ _ k => tX12_slot k) (fun ξ l _ _ => pSlotA (a1 := a1) (a2 := a2) (a3 := a3) l) (fun d => d_slot (a1 := a1) (a2 := a2) (a3 := a3) d)
theorem d_slots {a1 a2 : Int32} {μ : gM} (d : DEAD μ) : ∃ v, fX11_slots a1 a2 μ = some (v, μ) ∧ fX12_slots a1 a2 μ = some (v, gUp μ 267 0 0) := by
  obtain ⟨t, t2, z, nt, ct, nc⟩ := d
  unfold fX11_slots fX12_slots
  rw [zLt_eq]
  rcases pairG (a1 := a1) (a2 := a2) nc with ⟨g, k, hg, -⟩ | ⟨g1, g2 | ⟨g2, g3⟩⟩
  · omega
  · rw [g1, g2, zBd_some, zBd_some, if_pos rfl, if_pos rfl]
    exact ⟨_, rfl, rfl⟩
  · rw [g1, g2, zBd_some, zBd_some, if_pos rfl, if_neg one_n0, g3, zBd_some, if_pos rfl]
    exact ⟨_, rfl, rfl⟩
theorem INV.slots {a1 a2 : Int32} {μ : gM} (h : INV μ) : ∃ (v : Int32) (μ1 μ2 : gM), fX11_slots a1 a2 μ = some (v, μ1) ∧ fX12_slots a1 a2 μ1 = some (v, μ2) ∧ INV μ2 := h.act (tX11_slots h.1.1.1) (fun _ _ _ k => tX12_slots k) (fun ξ l _ _ => pSlotsA (a1 := a1) (a2 := a2) l) (fun d => d_slots (a1 := a1) (a2 := a2) d)
theorem d_host {a1 a2 a3 : Int32} {μ : gM} (d : DEAD μ) : ∃ v, fX11_host a1 a2 a3 μ = some (v, μ) ∧ fX12_host a1 a2 a3 μ = some (v, gUp μ 267 0 0) := by
  obtain ⟨t, t2, z, nt, ct, nc⟩ := d
  unfold fX11_host fX12_host
  rw [zLt_eq]
  rcases pairG (a1 := a1) (a2 := a2) nc with ⟨g, k, hg, -⟩ | ⟨g1, g2 | ⟨g2, g3⟩⟩
  · omega
  · rw [g1, g2, zBd_some, zBd_some, if_pos rfl, if_pos rfl]
    exact ⟨_, rfl, rfl⟩
  · rw [g1, g2, zBd_some, zBd_some, if_pos rfl, if_neg one_n0, g3, zBd_some, if_pos rfl]
    exact ⟨_, rfl, rfl⟩
theorem INV.host {a1 a2 a3 : Int32} {μ : gM} (h : INV μ) : ∃ (v : Int32) (μ1 μ2 : gM), fX11_host a1 a2 a3 μ = some (v, μ1) ∧ fX12_host a1 a2 a3 μ1 = some (v, μ2) ∧ INV μ2 := h.act (tX11_host h.1.1.1) (fun _ _ _ k => tX12_host k) (fun ξ l _ _ => pHostA (a1 := a1) (a2 := a2) (a3 := a3) l) (fun d => d_host (a1 := a1) (a2 := a2) (a3 := a3) d)
theorem d_load {a1 a2 a3 : Int32} {μ : gM} (d : DEAD μ) : ∃ v, fX11_load a1 a2 a3 μ = some (v, μ) ∧ fX12_load a1 a2 a3 μ = some (v, gUp μ 267 0 0) := by
  obtain ⟨t, t2, z, nt, ct, nc⟩ := d
  unfold fX11_load fX12_load
  rw [zLt_eq]
  rcases pairG (a1 := a1) (a2 := a2) nc with ⟨g, k, hg, -⟩ | ⟨g1, g2 | ⟨g2, g3⟩⟩
  · omega
  · rw [g1, g2, zBd_some, zBd_some, if_pos rfl, if_pos rfl]
    exact ⟨_, rfl, rfl⟩
  · rw [g1, g2, zBd_some, zBd_some, if_pos rfl, if_neg one_n0, g3, zBd_some, if_pos rfl]
    exact ⟨_, rfl, rfl⟩
theorem INV.load {a1 a2 a3 : Int32} {μ : gM} (h : INV μ) : ∃ (v : Int32) (μ1 μ2 : gM), fX11_load a1 a2 a3 μ = some (v, μ1) ∧ fX12_load a1 a2 a3 μ1 = some (v, μ2) ∧ INV μ2 := h.act (tX11_load h.1.1.1) (fun _ _ _ k => tX12_load k) (fun ξ l _ _ => pLoadA (a1 := a1) (a2 := a2) (a3 := a3) l) (fun d => d_load (a1 := a1) (a2 := a2) (a3 := a3) d)
