set_option maxRecDepth 100000 in
set_option maxHeartbeats 4000000 in
theorem gl_case0 {l : Launch} {g : gG} {b Ls i : Nat} {xs : Nat → Int32} {K : gKt} (h : gLW l g b Ls xs K) (hi : i + 6 ≤ Ls) (hLs : Ls < 2 ^ 31) {a1 a2 a3 a4 a5 : Int32} (ha1 : xs (i + 1) = a1) (ha2 : xs (i + 2) = a2) (ha3 : xs (i + 3) = a3) (ha4 : xs (i + 4) = a4) (ha5 : xs (i + 5) = a5) {v v2 : Int32} {μ μ1 μ2 : gM} (e1 : fX11_feed a1 a2 a3 a4 a5 μ = some (v, μ1)) (e2 : fX12_feed a1 a2 a3 a4 a5 μ1 = some (v2, μ2)) (hk : K 1534 [some (.ref b), some (.ref (g.1 + 0)), some (.ref (g.1 + 267)), some (.int (nI i))] [] μ2) : K 216 [some (.ref b), some (.ref (g.1 + 0)), some (.ref (g.1 + 267)), some (.int (nI i))] [] μ := by
  have hv1 : vp_in (nI i + 1) Ls := by rw [show nI i + 1 = nI (i + 1) from nI_add i 1]; exact vp_in_nI (by omega) hLs
  have hq1 : (nI i + 1).toNatClampNeg = i + 1 := by rw [show nI i + 1 = nI (i + 1) from nI_add i 1]; exact nI_clamp (by omega)
  have hv2 : vp_in (nI i + 2) Ls := by rw [show nI i + 2 = nI (i + 2) from nI_add i 2]; exact vp_in_nI (by omega) hLs
  have hq2 : (nI i + 2).toNatClampNeg = i + 2 := by rw [show nI i + 2 = nI (i + 2) from nI_add i 2]; exact nI_clamp (by omega)
  have hv3 : vp_in (nI i + 3) Ls := by rw [show nI i + 3 = nI (i + 3) from nI_add i 3]; exact vp_in_nI (by omega) hLs
  have hq3 : (nI i + 3).toNatClampNeg = i + 3 := by rw [show nI i + 3 = nI (i + 3) from nI_add i 3]; exact nI_clamp (by omega)
  have hv4 : vp_in (nI i + 4) Ls := by rw [show nI i + 4 = nI (i + 4) from nI_add i 4]; exact vp_in_nI (by omega) hLs
  have hq4 : (nI i + 4).toNatClampNeg = i + 4 := by rw [show nI i + 4 = nI (i + 4) from nI_add i 4]; exact nI_clamp (by omega)
  have hv5 : vp_in (nI i + 5) Ls := by rw [show nI i + 5 = nI (i + 5) from nI_add i 5]; exact vp_in_nI (by omega) hLs
  have hq5 : (nI i + 5).toNatClampNeg = i + 5 := by rw [show nI i + 5 = nI (i + 5) from nI_add i 5]; exact nI_clamp (by omega)
  refine zl_aload_n (pc := 216) h dL_law_216 rfl rfl ?_
  refine zl_aload_n (pc := 217) h dL_law_217 rfl rfl ?_
  refine zl_iload_n (pc := 218) h dL_law_218 rfl rfl ?_
  refine zl_iconst (pc := 219) (v := 1) h dL_law_219 (by decide) ?_
  refine zl_iadd (pc := 220) h dL_law_220 ?_
  refine zl_sld (pc := 221) (q := i + 1) h (hv1) (hq1) dL_law_221 ?_
  rw [ha1]
  refine zl_aload_n (pc := 222) h dL_law_222 rfl rfl ?_
  refine zl_iload_n (pc := 223) h dL_law_223 rfl rfl ?_
  refine zl_iconst (pc := 224) (v := 2) h dL_law_224 (by decide) ?_
  refine zl_iadd (pc := 225) h dL_law_225 ?_
  refine zl_sld (pc := 226) (q := i + 2) h (hv2) (hq2) dL_law_226 ?_
  rw [ha2]
  refine zl_aload_n (pc := 227) h dL_law_227 rfl rfl ?_
  refine zl_iload_n (pc := 228) h dL_law_228 rfl rfl ?_
  refine zl_iconst (pc := 229) (v := 3) h dL_law_229 (by decide) ?_
  refine zl_iadd (pc := 230) h dL_law_230 ?_
  refine zl_sld (pc := 231) (q := i + 3) h (hv3) (hq3) dL_law_231 ?_
  rw [ha3]
  refine zl_aload_n (pc := 232) h dL_law_232 rfl rfl ?_
  refine zl_iload_n (pc := 233) h dL_law_233 rfl rfl ?_
  refine zl_iconst (pc := 234) (v := 4) h dL_law_234 (by decide) ?_
  refine zl_iadd (pc := 235) h dL_law_235 ?_
  refine zl_sld (pc := 236) (q := i + 4) h (hv4) (hq4) dL_law_236 ?_
  rw [ha4]
  refine zl_aload_n (pc := 237) h dL_law_237 rfl rfl ?_
  refine zl_iload_n (pc := 238) h dL_law_238 rfl rfl ?_
  refine zl_iconst (pc := 239) (v := 5) h dL_law_239 (by decide) ?_
  refine zl_iadd (pc := 240) h dL_law_240 ?_
  refine zl_sld (pc := 241) (q := i + 5) h (hv5) (hq5) dL_law_241 ?_
  rw [ha5]
  refine zl_callV (pc := 242) (a := 0) (n := 5) (As := [.int a1, .int a2, .int a3, .int a4, .int a5]) h gkc_0 rfl zl_w684 zl_w685 zl_w686 ⟨zl_w687, zl_w180, by decide +kernel, by decide +kernel, by decide +kernel⟩ ⟨by decide, by decide⟩ (cX11_feed_ok e1) rfl (Nat.le_of_ble_eq_true rfl) dL_law_242 rfl ?_
  refine zl_pop (pc := 245) h dL_law_245 rfl ?_
  refine zl_aload_n (pc := 246) h dL_law_246 rfl rfl ?_
  refine zl_aload_n (pc := 247) h dL_law_247 rfl rfl ?_
  refine zl_iload_n (pc := 248) h dL_law_248 rfl rfl ?_
  refine zl_iconst (pc := 249) (v := 1) h dL_law_249 (by decide) ?_
  refine zl_iadd (pc := 250) h dL_law_250 ?_
  refine zl_sld (pc := 251) (q := i + 1) h (hv1) (hq1) dL_law_251 ?_
  rw [ha1]
  refine zl_aload_n (pc := 252) h dL_law_252 rfl rfl ?_
  refine zl_iload_n (pc := 253) h dL_law_253 rfl rfl ?_
  refine zl_iconst (pc := 254) (v := 2) h dL_law_254 (by decide) ?_
  refine zl_iadd (pc := 255) h dL_law_255 ?_
  refine zl_sld (pc := 256) (q := i + 2) h (hv2) (hq2) dL_law_256 ?_
  rw [ha2]
  refine zl_aload_n (pc := 257) h dL_law_257 rfl rfl ?_
  refine zl_iload_n (pc := 258) h dL_law_258 rfl rfl ?_
  refine zl_iconst (pc := 259) (v := 3) h dL_law_259 (by decide) ?_
  refine zl_iadd (pc := 260) h dL_law_260 ?_
  refine zl_sld (pc := 261) (q := i + 3) h (hv3) (hq3) dL_law_261 ?_
  rw [ha3]
  refine zl_aload_n (pc := 262) h dL_law_262 rfl rfl ?_
  refine zl_iload_n (pc := 263) h dL_law_263 rfl rfl ?_
  refine zl_iconst (pc := 264) (v := 4) h dL_law_264 (by decide) ?_
  refine zl_iadd (pc := 265) h dL_law_265 ?_
  refine zl_sld (pc := 266) (q := i + 4) h (hv4) (hq4) dL_law_266 ?_
  rw [ha4]
  refine zl_aload_n (pc := 267) h dL_law_267 rfl rfl ?_
  refine zl_iload_n (pc := 268) h dL_law_268 rfl rfl ?_
  refine zl_iconst (pc := 269) (v := 5) h dL_law_269 (by decide) ?_
  refine zl_iadd (pc := 270) h dL_law_270 ?_
  refine zl_sld (pc := 271) (q := i + 5) h (hv5) (hq5) dL_law_271 ?_
  rw [ha5]
  refine zl_callV (pc := 272) (a := 267) (n := 5) (As := [.int a1, .int a2, .int a3, .int a4, .int a5]) h gkc_267 rfl zl_w1445 zl_w1446 zl_w1447 ⟨zl_w1448, zl_w196, by decide +kernel, by decide +kernel, by decide +kernel⟩ ⟨by decide, by decide⟩ (cX12_feed_ok e2) rfl (Nat.le_of_ble_eq_true rfl) dL_law_272 rfl ?_
  refine zl_pop (pc := 275) h dL_law_275 rfl ?_
  refine zl_goto (pc := 276) (tgt := 1534) h dL_law_276 rfl ?_
  exact hk

set_option maxRecDepth 100000 in
set_option maxHeartbeats 4000000 in
theorem gl_case1 {l : Launch} {g : gG} {b Ls i : Nat} {xs : Nat → Int32} {K : gKt} (h : gLW l g b Ls xs K) (hi : i + 6 ≤ Ls) (hLs : Ls < 2 ^ 31) {a1 a2 a3 a4 a5 : Int32} (ha1 : xs (i + 1) = a1) (ha2 : xs (i + 2) = a2) (ha3 : xs (i + 3) = a3) (ha4 : xs (i + 4) = a4) (ha5 : xs (i + 5) = a5) {v v2 : Int32} {μ μ1 μ2 : gM} (e1 : fX11_end a1 μ = some (v, μ1)) (e2 : fX12_end a1 μ1 = some (v2, μ2)) (hk : K 1534 [some (.ref b), some (.ref (g.1 + 0)), some (.ref (g.1 + 267)), some (.int (nI i))] [] μ2) : K 279 [some (.ref b), some (.ref (g.1 + 0)), some (.ref (g.1 + 267)), some (.int (nI i))] [] μ := by
  have hv1 : vp_in (nI i + 1) Ls := by rw [show nI i + 1 = nI (i + 1) from nI_add i 1]; exact vp_in_nI (by omega) hLs
  have hq1 : (nI i + 1).toNatClampNeg = i + 1 := by rw [show nI i + 1 = nI (i + 1) from nI_add i 1]; exact nI_clamp (by omega)
  have hv2 : vp_in (nI i + 2) Ls := by rw [show nI i + 2 = nI (i + 2) from nI_add i 2]; exact vp_in_nI (by omega) hLs
  have hq2 : (nI i + 2).toNatClampNeg = i + 2 := by rw [show nI i + 2 = nI (i + 2) from nI_add i 2]; exact nI_clamp (by omega)
  have hv3 : vp_in (nI i + 3) Ls := by rw [show nI i + 3 = nI (i + 3) from nI_add i 3]; exact vp_in_nI (by omega) hLs
  have hq3 : (nI i + 3).toNatClampNeg = i + 3 := by rw [show nI i + 3 = nI (i + 3) from nI_add i 3]; exact nI_clamp (by omega)
  have hv4 : vp_in (nI i + 4) Ls := by rw [show nI i + 4 = nI (i + 4) from nI_add i 4]; exact vp_in_nI (by omega) hLs
  have hq4 : (nI i + 4).toNatClampNeg = i + 4 := by rw [show nI i + 4 = nI (i + 4) from nI_add i 4]; exact nI_clamp (by omega)
  have hv5 : vp_in (nI i + 5) Ls := by rw [show nI i + 5 = nI (i + 5) from nI_add i 5]; exact vp_in_nI (by omega) hLs
  have hq5 : (nI i + 5).toNatClampNeg = i + 5 := by rw [show nI i + 5 = nI (i + 5) from nI_add i 5]; exact nI_clamp (by omega)
  refine zl_aload_n (pc := 279) h dL_law_279 rfl rfl ?_
  refine zl_aload_n (pc := 280) h dL_law_280 rfl rfl ?_
  refine zl_iload_n (pc := 281) h dL_law_281 rfl rfl ?_
  refine zl_iconst (pc := 282) (v := 1) h dL_law_282 (by decide) ?_
  refine zl_iadd (pc := 283) h dL_law_283 ?_
  refine zl_sld (pc := 284) (q := i + 1) h (hv1) (hq1) dL_law_284 ?_
  rw [ha1]
  refine zl_callV (pc := 285) (a := 0) (n := 1) (As := [.int a1]) h gkc_0 rfl zl_w692 zl_w693 zl_w694 ⟨zl_w695, zl_w180, by decide +kernel, by decide +kernel, by decide +kernel⟩ ⟨by decide, by decide⟩ (cX11_end_ok e1) rfl (Nat.le_of_ble_eq_true rfl) dL_law_285 rfl ?_
  refine zl_pop (pc := 288) h dL_law_288 rfl ?_
  refine zl_aload_n (pc := 289) h dL_law_289 rfl rfl ?_
  refine zl_aload_n (pc := 290) h dL_law_290 rfl rfl ?_
  refine zl_iload_n (pc := 291) h dL_law_291 rfl rfl ?_
  refine zl_iconst (pc := 292) (v := 1) h dL_law_292 (by decide) ?_
  refine zl_iadd (pc := 293) h dL_law_293 ?_
  refine zl_sld (pc := 294) (q := i + 1) h (hv1) (hq1) dL_law_294 ?_
  rw [ha1]
  refine zl_callV (pc := 295) (a := 267) (n := 1) (As := [.int a1]) h gkc_267 rfl zl_w1453 zl_w1454 zl_w1455 ⟨zl_w1456, zl_w196, by decide +kernel, by decide +kernel, by decide +kernel⟩ ⟨by decide, by decide⟩ (cX12_end_ok e2) rfl (Nat.le_of_ble_eq_true rfl) dL_law_295 rfl ?_
  refine zl_pop (pc := 298) h dL_law_298 rfl ?_
  refine zl_goto (pc := 299) (tgt := 1534) h dL_law_299 rfl ?_
  exact hk

set_option maxRecDepth 100000 in
set_option maxHeartbeats 4000000 in
theorem gl_case2 {l : Launch} {g : gG} {b Ls i : Nat} {xs : Nat → Int32} {K : gKt} (h : gLW l g b Ls xs K) (hi : i + 6 ≤ Ls) (hLs : Ls < 2 ^ 31) {a1 a2 a3 a4 a5 : Int32} (ha1 : xs (i + 1) = a1) (ha2 : xs (i + 2) = a2) (ha3 : xs (i + 3) = a3) (ha4 : xs (i + 4) = a4) (ha5 : xs (i + 5) = a5) {v v2 : Int32} {μ μ1 μ2 : gM} (e1 : fX11_net μ = some (v, μ1)) (e2 : fX12_net μ1 = some (v2, μ2)) (hk : K 1534 [some (.ref b), some (.ref (g.1 + 0)), some (.ref (g.1 + 267)), some (.int (nI i))] [] μ2) : K 302 [some (.ref b), some (.ref (g.1 + 0)), some (.ref (g.1 + 267)), some (.int (nI i))] [] μ := by
  have hv1 : vp_in (nI i + 1) Ls := by rw [show nI i + 1 = nI (i + 1) from nI_add i 1]; exact vp_in_nI (by omega) hLs
  have hq1 : (nI i + 1).toNatClampNeg = i + 1 := by rw [show nI i + 1 = nI (i + 1) from nI_add i 1]; exact nI_clamp (by omega)
  have hv2 : vp_in (nI i + 2) Ls := by rw [show nI i + 2 = nI (i + 2) from nI_add i 2]; exact vp_in_nI (by omega) hLs
  have hq2 : (nI i + 2).toNatClampNeg = i + 2 := by rw [show nI i + 2 = nI (i + 2) from nI_add i 2]; exact nI_clamp (by omega)
  have hv3 : vp_in (nI i + 3) Ls := by rw [show nI i + 3 = nI (i + 3) from nI_add i 3]; exact vp_in_nI (by omega) hLs
  have hq3 : (nI i + 3).toNatClampNeg = i + 3 := by rw [show nI i + 3 = nI (i + 3) from nI_add i 3]; exact nI_clamp (by omega)
  have hv4 : vp_in (nI i + 4) Ls := by rw [show nI i + 4 = nI (i + 4) from nI_add i 4]; exact vp_in_nI (by omega) hLs
  have hq4 : (nI i + 4).toNatClampNeg = i + 4 := by rw [show nI i + 4 = nI (i + 4) from nI_add i 4]; exact nI_clamp (by omega)
  have hv5 : vp_in (nI i + 5) Ls := by rw [show nI i + 5 = nI (i + 5) from nI_add i 5]; exact vp_in_nI (by omega) hLs
  have hq5 : (nI i + 5).toNatClampNeg = i + 5 := by rw [show nI i + 5 = nI (i + 5) from nI_add i 5]; exact nI_clamp (by omega)
  refine zl_aload_n (pc := 302) h dL_law_302 rfl rfl ?_
  refine zl_callV (pc := 303) (a := 0) (n := 0) (As := []) h gkc_0 rfl zl_w696 zl_w697 zl_w698 ⟨zl_w699, zl_w180, by decide +kernel, by decide +kernel, by decide +kernel⟩ ⟨by decide, by decide⟩ (cX11_net_ok e1) rfl (Nat.le_of_ble_eq_true rfl) dL_law_303 rfl ?_
  refine zl_pop (pc := 306) h dL_law_306 rfl ?_
  refine zl_aload_n (pc := 307) h dL_law_307 rfl rfl ?_
  refine zl_callV (pc := 308) (a := 267) (n := 0) (As := []) h gkc_267 rfl zl_w1460 zl_w1461 zl_w1462 ⟨zl_w1463, zl_w196, by decide +kernel, by decide +kernel, by decide +kernel⟩ ⟨by decide, by decide⟩ (cX12_net_ok e2) rfl (Nat.le_of_ble_eq_true rfl) dL_law_308 rfl ?_
  refine zl_pop (pc := 311) h dL_law_311 rfl ?_
  refine zl_goto (pc := 312) (tgt := 1534) h dL_law_312 rfl ?_
  exact hk

set_option maxRecDepth 100000 in
set_option maxHeartbeats 4000000 in
theorem gl_case3 {l : Launch} {g : gG} {b Ls i : Nat} {xs : Nat → Int32} {K : gKt} (h : gLW l g b Ls xs K) (hi : i + 6 ≤ Ls) (hLs : Ls < 2 ^ 31) {a1 a2 a3 a4 a5 : Int32} (ha1 : xs (i + 1) = a1) (ha2 : xs (i + 2) = a2) (ha3 : xs (i + 3) = a3) (ha4 : xs (i + 4) = a4) (ha5 : xs (i + 5) = a5) {v v2 : Int32} {μ μ1 μ2 : gM} (e1 : fX11_plan μ = some (v, μ1)) (e2 : fX12_plan μ1 = some (v2, μ2)) (hk : K 1534 [some (.ref b), some (.ref (g.1 + 0)), some (.ref (g.1 + 267)), some (.int (nI i))] [] μ2) : K 315 [some (.ref b), some (.ref (g.1 + 0)), some (.ref (g.1 + 267)), some (.int (nI i))] [] μ := by
  have hv1 : vp_in (nI i + 1) Ls := by rw [show nI i + 1 = nI (i + 1) from nI_add i 1]; exact vp_in_nI (by omega) hLs
  have hq1 : (nI i + 1).toNatClampNeg = i + 1 := by rw [show nI i + 1 = nI (i + 1) from nI_add i 1]; exact nI_clamp (by omega)
  have hv2 : vp_in (nI i + 2) Ls := by rw [show nI i + 2 = nI (i + 2) from nI_add i 2]; exact vp_in_nI (by omega) hLs
  have hq2 : (nI i + 2).toNatClampNeg = i + 2 := by rw [show nI i + 2 = nI (i + 2) from nI_add i 2]; exact nI_clamp (by omega)
  have hv3 : vp_in (nI i + 3) Ls := by rw [show nI i + 3 = nI (i + 3) from nI_add i 3]; exact vp_in_nI (by omega) hLs
  have hq3 : (nI i + 3).toNatClampNeg = i + 3 := by rw [show nI i + 3 = nI (i + 3) from nI_add i 3]; exact nI_clamp (by omega)
  have hv4 : vp_in (nI i + 4) Ls := by rw [show nI i + 4 = nI (i + 4) from nI_add i 4]; exact vp_in_nI (by omega) hLs
  have hq4 : (nI i + 4).toNatClampNeg = i + 4 := by rw [show nI i + 4 = nI (i + 4) from nI_add i 4]; exact nI_clamp (by omega)
  have hv5 : vp_in (nI i + 5) Ls := by rw [show nI i + 5 = nI (i + 5) from nI_add i 5]; exact vp_in_nI (by omega) hLs
  have hq5 : (nI i + 5).toNatClampNeg = i + 5 := by rw [show nI i + 5 = nI (i + 5) from nI_add i 5]; exact nI_clamp (by omega)
  refine zl_aload_n (pc := 315) h dL_law_315 rfl rfl ?_
  refine zl_callV (pc := 316) (a := 0) (n := 0) (As := []) h gkc_0 rfl zl_w874 zl_w875 zl_w876 ⟨zl_w877, zl_w180, by decide +kernel, by decide +kernel, by decide +kernel⟩ ⟨by decide, by decide⟩ (cX11_plan_ok e1) rfl (Nat.le_of_ble_eq_true rfl) dL_law_316 rfl ?_
  refine zl_pop (pc := 319) h dL_law_319 rfl ?_
  refine zl_aload_n (pc := 320) h dL_law_320 rfl rfl ?_
  refine zl_callV (pc := 321) (a := 267) (n := 0) (As := []) h gkc_267 rfl zl_w1668 zl_w1669 zl_w1670 ⟨zl_w1671, zl_w196, by decide +kernel, by decide +kernel, by decide +kernel⟩ ⟨by decide, by decide⟩ (cX12_plan_ok e2) rfl (Nat.le_of_ble_eq_true rfl) dL_law_321 rfl ?_
  refine zl_pop (pc := 324) h dL_law_324 rfl ?_
  refine zl_goto (pc := 325) (tgt := 1534) h dL_law_325 rfl ?_
  exact hk

set_option maxRecDepth 100000 in
set_option maxHeartbeats 4000000 in
theorem gl_case4 {l : Launch} {g : gG} {b Ls i : Nat} {xs : Nat → Int32} {K : gKt} (h : gLW l g b Ls xs K) (hi : i + 6 ≤ Ls) (hLs : Ls < 2 ^ 31) {a1 a2 a3 a4 a5 : Int32} (ha1 : xs (i + 1) = a1) (ha2 : xs (i + 2) = a2) (ha3 : xs (i + 3) = a3) (ha4 : xs (i + 4) = a4) (ha5 : xs (i + 5) = a5) {v v2 : Int32} {μ μ2 : gM} (e1 : fX11_fault a1 μ = some v) (e2 : fX12_fault a1 μ = some (v2, μ2)) (hk : K 1534 [some (.ref b), some (.ref (g.1 + 0)), some (.ref (g.1 + 267)), some (.int (nI i))] [] μ2) : K 328 [some (.ref b), some (.ref (g.1 + 0)), some (.ref (g.1 + 267)), some (.int (nI i))] [] μ := by
  have hv1 : vp_in (nI i + 1) Ls := by rw [show nI i + 1 = nI (i + 1) from nI_add i 1]; exact vp_in_nI (by omega) hLs
  have hq1 : (nI i + 1).toNatClampNeg = i + 1 := by rw [show nI i + 1 = nI (i + 1) from nI_add i 1]; exact nI_clamp (by omega)
  have hv2 : vp_in (nI i + 2) Ls := by rw [show nI i + 2 = nI (i + 2) from nI_add i 2]; exact vp_in_nI (by omega) hLs
  have hq2 : (nI i + 2).toNatClampNeg = i + 2 := by rw [show nI i + 2 = nI (i + 2) from nI_add i 2]; exact nI_clamp (by omega)
  have hv3 : vp_in (nI i + 3) Ls := by rw [show nI i + 3 = nI (i + 3) from nI_add i 3]; exact vp_in_nI (by omega) hLs
  have hq3 : (nI i + 3).toNatClampNeg = i + 3 := by rw [show nI i + 3 = nI (i + 3) from nI_add i 3]; exact nI_clamp (by omega)
  have hv4 : vp_in (nI i + 4) Ls := by rw [show nI i + 4 = nI (i + 4) from nI_add i 4]; exact vp_in_nI (by omega) hLs
  have hq4 : (nI i + 4).toNatClampNeg = i + 4 := by rw [show nI i + 4 = nI (i + 4) from nI_add i 4]; exact nI_clamp (by omega)
  have hv5 : vp_in (nI i + 5) Ls := by rw [show nI i + 5 = nI (i + 5) from nI_add i 5]; exact vp_in_nI (by omega) hLs
  have hq5 : (nI i + 5).toNatClampNeg = i + 5 := by rw [show nI i + 5 = nI (i + 5) from nI_add i 5]; exact nI_clamp (by omega)
  refine zl_aload_n (pc := 328) h dL_law_328 rfl rfl ?_
  refine zl_aload_n (pc := 329) h dL_law_329 rfl rfl ?_
  refine zl_iload_n (pc := 330) h dL_law_330 rfl rfl ?_
  refine zl_iconst (pc := 331) (v := 1) h dL_law_331 (by decide) ?_
  refine zl_iadd (pc := 332) h dL_law_332 ?_
  refine zl_sld (pc := 333) (q := i + 1) h (hv1) (hq1) dL_law_333 ?_
  rw [ha1]
  refine zl_callV (pc := 334) (a := 0) (n := 1) (As := [.int a1]) h gkc_0 rfl zl_w951 zl_w952 zl_w953 ⟨zl_w954, zl_w180, by decide +kernel, by decide +kernel, by decide +kernel⟩ ⟨by decide, by decide⟩ (cX11_fault_ok e1) rfl (Nat.le_of_ble_eq_true rfl) dL_law_334 rfl ?_
  refine zl_pop (pc := 337) h dL_law_337 rfl ?_
  refine zl_aload_n (pc := 338) h dL_law_338 rfl rfl ?_
  refine zl_aload_n (pc := 339) h dL_law_339 rfl rfl ?_
  refine zl_iload_n (pc := 340) h dL_law_340 rfl rfl ?_
  refine zl_iconst (pc := 341) (v := 1) h dL_law_341 (by decide) ?_
  refine zl_iadd (pc := 342) h dL_law_342 ?_
  refine zl_sld (pc := 343) (q := i + 1) h (hv1) (hq1) dL_law_343 ?_
  rw [ha1]
  refine zl_callV (pc := 344) (a := 267) (n := 1) (As := [.int a1]) h gkc_267 rfl zl_w1664 zl_w1665 zl_w1666 ⟨zl_w1667, zl_w196, by decide +kernel, by decide +kernel, by decide +kernel⟩ ⟨by decide, by decide⟩ (cX12_fault_ok e2) rfl (Nat.le_of_ble_eq_true rfl) dL_law_344 rfl ?_
  refine zl_pop (pc := 347) h dL_law_347 rfl ?_
  refine zl_goto (pc := 348) (tgt := 1534) h dL_law_348 rfl ?_
  exact hk

set_option maxRecDepth 100000 in
set_option maxHeartbeats 4000000 in
theorem gl_case5 {l : Launch} {g : gG} {b Ls i : Nat} {xs : Nat → Int32} {K : gKt} (h : gLW l g b Ls xs K) (hi : i + 6 ≤ Ls) (hLs : Ls < 2 ^ 31) {a1 a2 a3 a4 a5 : Int32} (ha1 : xs (i + 1) = a1) (ha2 : xs (i + 2) = a2) (ha3 : xs (i + 3) = a3) (ha4 : xs (i + 4) = a4) (ha5 : xs (i + 5) = a5) {v v2 : Int32} {μ μ2 : gM} (e1 : fX11_has a1 μ = some v) (e2 : fX12_has a1 μ = some (v2, μ2)) (hk : K 1534 [some (.ref b), some (.ref (g.1 + 0)), some (.ref (g.1 + 267)), some (.int (nI i))] [] μ2) : K 351 [some (.ref b), some (.ref (g.1 + 0)), some (.ref (g.1 + 267)), some (.int (nI i))] [] μ := by
  have hv1 : vp_in (nI i + 1) Ls := by rw [show nI i + 1 = nI (i + 1) from nI_add i 1]; exact vp_in_nI (by omega) hLs
  have hq1 : (nI i + 1).toNatClampNeg = i + 1 := by rw [show nI i + 1 = nI (i + 1) from nI_add i 1]; exact nI_clamp (by omega)
  have hv2 : vp_in (nI i + 2) Ls := by rw [show nI i + 2 = nI (i + 2) from nI_add i 2]; exact vp_in_nI (by omega) hLs
  have hq2 : (nI i + 2).toNatClampNeg = i + 2 := by rw [show nI i + 2 = nI (i + 2) from nI_add i 2]; exact nI_clamp (by omega)
  have hv3 : vp_in (nI i + 3) Ls := by rw [show nI i + 3 = nI (i + 3) from nI_add i 3]; exact vp_in_nI (by omega) hLs
  have hq3 : (nI i + 3).toNatClampNeg = i + 3 := by rw [show nI i + 3 = nI (i + 3) from nI_add i 3]; exact nI_clamp (by omega)
  have hv4 : vp_in (nI i + 4) Ls := by rw [show nI i + 4 = nI (i + 4) from nI_add i 4]; exact vp_in_nI (by omega) hLs
  have hq4 : (nI i + 4).toNatClampNeg = i + 4 := by rw [show nI i + 4 = nI (i + 4) from nI_add i 4]; exact nI_clamp (by omega)
  have hv5 : vp_in (nI i + 5) Ls := by rw [show nI i + 5 = nI (i + 5) from nI_add i 5]; exact vp_in_nI (by omega) hLs
  have hq5 : (nI i + 5).toNatClampNeg = i + 5 := by rw [show nI i + 5 = nI (i + 5) from nI_add i 5]; exact nI_clamp (by omega)
  refine zl_aload_n (pc := 351) h dL_law_351 rfl rfl ?_
  refine zl_aload_n (pc := 352) h dL_law_352 rfl rfl ?_
  refine zl_iload_n (pc := 353) h dL_law_353 rfl rfl ?_
  refine zl_iconst (pc := 354) (v := 1) h dL_law_354 (by decide) ?_
  refine zl_iadd (pc := 355) h dL_law_355 ?_
  refine zl_sld (pc := 356) (q := i + 1) h (hv1) (hq1) dL_law_356 ?_
  rw [ha1]
  refine zl_callV (pc := 357) (a := 0) (n := 1) (As := [.int a1]) h gkc_0 rfl zl_w955 zl_w956 zl_w957 ⟨zl_w958, zl_w180, by decide +kernel, by decide +kernel, by decide +kernel⟩ ⟨by decide, by decide⟩ (cX11_has_ok e1) rfl (Nat.le_of_ble_eq_true rfl) dL_law_357 rfl ?_
  refine zl_pop (pc := 360) h dL_law_360 rfl ?_
  refine zl_aload_n (pc := 361) h dL_law_361 rfl rfl ?_
  refine zl_aload_n (pc := 362) h dL_law_362 rfl rfl ?_
  refine zl_iload_n (pc := 363) h dL_law_363 rfl rfl ?_
  refine zl_iconst (pc := 364) (v := 1) h dL_law_364 (by decide) ?_
  refine zl_iadd (pc := 365) h dL_law_365 ?_
  refine zl_sld (pc := 366) (q := i + 1) h (hv1) (hq1) dL_law_366 ?_
  rw [ha1]
  refine zl_callV (pc := 367) (a := 267) (n := 1) (As := [.int a1]) h gkc_267 rfl zl_w1696 zl_w1697 zl_w1698 ⟨zl_w1699, zl_w196, by decide +kernel, by decide +kernel, by decide +kernel⟩ ⟨by decide, by decide⟩ (cX12_has_ok e2) rfl (Nat.le_of_ble_eq_true rfl) dL_law_367 rfl ?_
  refine zl_pop (pc := 370) h dL_law_370 rfl ?_
  refine zl_goto (pc := 371) (tgt := 1534) h dL_law_371 rfl ?_
  exact hk

set_option maxRecDepth 100000 in
set_option maxHeartbeats 4000000 in
theorem gl_case6 {l : Launch} {g : gG} {b Ls i : Nat} {xs : Nat → Int32} {K : gKt} (h : gLW l g b Ls xs K) (hi : i + 6 ≤ Ls) (hLs : Ls < 2 ^ 31) {a1 a2 a3 a4 a5 : Int32} (ha1 : xs (i + 1) = a1) (ha2 : xs (i + 2) = a2) (ha3 : xs (i + 3) = a3) (ha4 : xs (i + 4) = a4) (ha5 : xs (i + 5) = a5) {v v2 : Int32} {μ μ2 : gM} (e1 : fX11_group a1 a2 μ = some v) (e2 : fX12_group a1 a2 μ = some (v2, μ2)) (hk : K 1534 [some (.ref b), some (.ref (g.1 + 0)), some (.ref (g.1 + 267)), some (.int (nI i))] [] μ2) : K 374 [some (.ref b), some (.ref (g.1 + 0)), some (.ref (g.1 + 267)), some (.int (nI i))] [] μ := by
  have hv1 : vp_in (nI i + 1) Ls := by rw [show nI i + 1 = nI (i + 1) from nI_add i 1]; exact vp_in_nI (by omega) hLs
  have hq1 : (nI i + 1).toNatClampNeg = i + 1 := by rw [show nI i + 1 = nI (i + 1) from nI_add i 1]; exact nI_clamp (by omega)
  have hv2 : vp_in (nI i + 2) Ls := by rw [show nI i + 2 = nI (i + 2) from nI_add i 2]; exact vp_in_nI (by omega) hLs
  have hq2 : (nI i + 2).toNatClampNeg = i + 2 := by rw [show nI i + 2 = nI (i + 2) from nI_add i 2]; exact nI_clamp (by omega)
  have hv3 : vp_in (nI i + 3) Ls := by rw [show nI i + 3 = nI (i + 3) from nI_add i 3]; exact vp_in_nI (by omega) hLs
  have hq3 : (nI i + 3).toNatClampNeg = i + 3 := by rw [show nI i + 3 = nI (i + 3) from nI_add i 3]; exact nI_clamp (by omega)
  have hv4 : vp_in (nI i + 4) Ls := by rw [show nI i + 4 = nI (i + 4) from nI_add i 4]; exact vp_in_nI (by omega) hLs
  have hq4 : (nI i + 4).toNatClampNeg = i + 4 := by rw [show nI i + 4 = nI (i + 4) from nI_add i 4]; exact nI_clamp (by omega)
  have hv5 : vp_in (nI i + 5) Ls := by rw [show nI i + 5 = nI (i + 5) from nI_add i 5]; exact vp_in_nI (by omega) hLs
  have hq5 : (nI i + 5).toNatClampNeg = i + 5 := by rw [show nI i + 5 = nI (i + 5) from nI_add i 5]; exact nI_clamp (by omega)
  refine zl_aload_n (pc := 374) h dL_law_374 rfl rfl ?_
  refine zl_aload_n (pc := 375) h dL_law_375 rfl rfl ?_
  refine zl_iload_n (pc := 376) h dL_law_376 rfl rfl ?_
  refine zl_iconst (pc := 377) (v := 1) h dL_law_377 (by decide) ?_
  refine zl_iadd (pc := 378) h dL_law_378 ?_
  refine zl_sld (pc := 379) (q := i + 1) h (hv1) (hq1) dL_law_379 ?_
  rw [ha1]
  refine zl_aload_n (pc := 380) h dL_law_380 rfl rfl ?_
  refine zl_iload_n (pc := 381) h dL_law_381 rfl rfl ?_
  refine zl_iconst (pc := 382) (v := 2) h dL_law_382 (by decide) ?_
  refine zl_iadd (pc := 383) h dL_law_383 ?_
  refine zl_sld (pc := 384) (q := i + 2) h (hv2) (hq2) dL_law_384 ?_
  rw [ha2]
  refine zl_callV (pc := 385) (a := 0) (n := 2) (As := [.int a1, .int a2]) h gkc_0 rfl zl_w969 zl_w970 zl_w971 ⟨zl_w972, zl_w180, by decide +kernel, by decide +kernel, by decide +kernel⟩ ⟨by decide, by decide⟩ (cX11_group_ok e1) rfl (Nat.le_of_ble_eq_true rfl) dL_law_385 rfl ?_
  refine zl_pop (pc := 388) h dL_law_388 rfl ?_
  refine zl_aload_n (pc := 389) h dL_law_389 rfl rfl ?_
  refine zl_aload_n (pc := 390) h dL_law_390 rfl rfl ?_
  refine zl_iload_n (pc := 391) h dL_law_391 rfl rfl ?_
  refine zl_iconst (pc := 392) (v := 1) h dL_law_392 (by decide) ?_
  refine zl_iadd (pc := 393) h dL_law_393 ?_
  refine zl_sld (pc := 394) (q := i + 1) h (hv1) (hq1) dL_law_394 ?_
  rw [ha1]
  refine zl_aload_n (pc := 395) h dL_law_395 rfl rfl ?_
  refine zl_iload_n (pc := 396) h dL_law_396 rfl rfl ?_
  refine zl_iconst (pc := 397) (v := 2) h dL_law_397 (by decide) ?_
  refine zl_iadd (pc := 398) h dL_law_398 ?_
  refine zl_sld (pc := 399) (q := i + 2) h (hv2) (hq2) dL_law_399 ?_
  rw [ha2]
  refine zl_callV (pc := 400) (a := 267) (n := 2) (As := [.int a1, .int a2]) h gkc_267 rfl zl_w1707 zl_w1708 zl_w1709 ⟨zl_w1710, zl_w196, by decide +kernel, by decide +kernel, by decide +kernel⟩ ⟨by decide, by decide⟩ (cX12_group_ok e2) rfl (Nat.le_of_ble_eq_true rfl) dL_law_400 rfl ?_
  refine zl_pop (pc := 403) h dL_law_403 rfl ?_
  refine zl_goto (pc := 404) (tgt := 1534) h dL_law_404 rfl ?_
  exact hk

set_option maxRecDepth 100000 in
set_option maxHeartbeats 4000000 in
theorem gl_case7 {l : Launch} {g : gG} {b Ls i : Nat} {xs : Nat → Int32} {K : gKt} (h : gLW l g b Ls xs K) (hi : i + 6 ≤ Ls) (hLs : Ls < 2 ^ 31) {a1 a2 a3 a4 a5 : Int32} (ha1 : xs (i + 1) = a1) (ha2 : xs (i + 2) = a2) (ha3 : xs (i + 3) = a3) (ha4 : xs (i + 4) = a4) (ha5 : xs (i + 5) = a5) {v v2 : Int32} {μ μ2 : gM} (e1 : fX11_member a1 a2 a3 μ = some v) (e2 : fX12_member a1 a2 a3 μ = some (v2, μ2)) (hk : K 1534 [some (.ref b), some (.ref (g.1 + 0)), some (.ref (g.1 + 267)), some (.int (nI i))] [] μ2) : K 407 [some (.ref b), some (.ref (g.1 + 0)), some (.ref (g.1 + 267)), some (.int (nI i))] [] μ := by
  have hv1 : vp_in (nI i + 1) Ls := by rw [show nI i + 1 = nI (i + 1) from nI_add i 1]; exact vp_in_nI (by omega) hLs
  have hq1 : (nI i + 1).toNatClampNeg = i + 1 := by rw [show nI i + 1 = nI (i + 1) from nI_add i 1]; exact nI_clamp (by omega)
  have hv2 : vp_in (nI i + 2) Ls := by rw [show nI i + 2 = nI (i + 2) from nI_add i 2]; exact vp_in_nI (by omega) hLs
  have hq2 : (nI i + 2).toNatClampNeg = i + 2 := by rw [show nI i + 2 = nI (i + 2) from nI_add i 2]; exact nI_clamp (by omega)
  have hv3 : vp_in (nI i + 3) Ls := by rw [show nI i + 3 = nI (i + 3) from nI_add i 3]; exact vp_in_nI (by omega) hLs
  have hq3 : (nI i + 3).toNatClampNeg = i + 3 := by rw [show nI i + 3 = nI (i + 3) from nI_add i 3]; exact nI_clamp (by omega)
  have hv4 : vp_in (nI i + 4) Ls := by rw [show nI i + 4 = nI (i + 4) from nI_add i 4]; exact vp_in_nI (by omega) hLs
  have hq4 : (nI i + 4).toNatClampNeg = i + 4 := by rw [show nI i + 4 = nI (i + 4) from nI_add i 4]; exact nI_clamp (by omega)
  have hv5 : vp_in (nI i + 5) Ls := by rw [show nI i + 5 = nI (i + 5) from nI_add i 5]; exact vp_in_nI (by omega) hLs
  have hq5 : (nI i + 5).toNatClampNeg = i + 5 := by rw [show nI i + 5 = nI (i + 5) from nI_add i 5]; exact nI_clamp (by omega)
  refine zl_aload_n (pc := 407) h dL_law_407 rfl rfl ?_
  refine zl_aload_n (pc := 408) h dL_law_408 rfl rfl ?_
  refine zl_iload_n (pc := 409) h dL_law_409 rfl rfl ?_
  refine zl_iconst (pc := 410) (v := 1) h dL_law_410 (by decide) ?_
  refine zl_iadd (pc := 411) h dL_law_411 ?_
  refine zl_sld (pc := 412) (q := i + 1) h (hv1) (hq1) dL_law_412 ?_
  rw [ha1]
  refine zl_aload_n (pc := 413) h dL_law_413 rfl rfl ?_
  refine zl_iload_n (pc := 414) h dL_law_414 rfl rfl ?_
  refine zl_iconst (pc := 415) (v := 2) h dL_law_415 (by decide) ?_
  refine zl_iadd (pc := 416) h dL_law_416 ?_
  refine zl_sld (pc := 417) (q := i + 2) h (hv2) (hq2) dL_law_417 ?_
  rw [ha2]
  refine zl_aload_n (pc := 418) h dL_law_418 rfl rfl ?_
  refine zl_iload_n (pc := 419) h dL_law_419 rfl rfl ?_
  refine zl_iconst (pc := 420) (v := 3) h dL_law_420 (by decide) ?_
  refine zl_iadd (pc := 421) h dL_law_421 ?_
  refine zl_sld (pc := 422) (q := i + 3) h (hv3) (hq3) dL_law_422 ?_
  rw [ha3]
  refine zl_callV (pc := 423) (a := 0) (n := 3) (As := [.int a1, .int a2, .int a3]) h gkc_0 rfl zl_w974 zl_w975 zl_w976 ⟨zl_w977, zl_w180, by decide +kernel, by decide +kernel, by decide +kernel⟩ ⟨by decide, by decide⟩ (cX11_member_ok e1) rfl (Nat.le_of_ble_eq_true rfl) dL_law_423 rfl ?_
  refine zl_pop (pc := 426) h dL_law_426 rfl ?_
  refine zl_aload_n (pc := 427) h dL_law_427 rfl rfl ?_
  refine zl_aload_n (pc := 428) h dL_law_428 rfl rfl ?_
  refine zl_iload_n (pc := 429) h dL_law_429 rfl rfl ?_
  refine zl_iconst (pc := 430) (v := 1) h dL_law_430 (by decide) ?_
  refine zl_iadd (pc := 431) h dL_law_431 ?_
  refine zl_sld (pc := 432) (q := i + 1) h (hv1) (hq1) dL_law_432 ?_
  rw [ha1]
  refine zl_aload_n (pc := 433) h dL_law_433 rfl rfl ?_
  refine zl_iload_n (pc := 434) h dL_law_434 rfl rfl ?_
  refine zl_iconst (pc := 435) (v := 2) h dL_law_435 (by decide) ?_
  refine zl_iadd (pc := 436) h dL_law_436 ?_
  refine zl_sld (pc := 437) (q := i + 2) h (hv2) (hq2) dL_law_437 ?_
  rw [ha2]
  refine zl_aload_n (pc := 438) h dL_law_438 rfl rfl ?_
  refine zl_iload_n (pc := 439) h dL_law_439 rfl rfl ?_
  refine zl_iconst (pc := 440) (v := 3) h dL_law_440 (by decide) ?_
  refine zl_iadd (pc := 441) h dL_law_441 ?_
  refine zl_sld (pc := 442) (q := i + 3) h (hv3) (hq3) dL_law_442 ?_
  rw [ha3]
  refine zl_callV (pc := 443) (a := 267) (n := 3) (As := [.int a1, .int a2, .int a3]) h gkc_267 rfl zl_w1715 zl_w1716 zl_w1717 ⟨zl_w1718, zl_w196, by decide +kernel, by decide +kernel, by decide +kernel⟩ ⟨by decide, by decide⟩ (cX12_member_ok e2) rfl (Nat.le_of_ble_eq_true rfl) dL_law_443 rfl ?_
  refine zl_pop (pc := 446) h dL_law_446 rfl ?_
  refine zl_goto (pc := 447) (tgt := 1534) h dL_law_447 rfl ?_
  exact hk

set_option maxRecDepth 100000 in
set_option maxHeartbeats 4000000 in
theorem gl_case8 {l : Launch} {g : gG} {b Ls i : Nat} {xs : Nat → Int32} {K : gKt} (h : gLW l g b Ls xs K) (hi : i + 6 ≤ Ls) (hLs : Ls < 2 ^ 31) {a1 a2 a3 a4 a5 : Int32} (ha1 : xs (i + 1) = a1) (ha2 : xs (i + 2) = a2) (ha3 : xs (i + 3) = a3) (ha4 : xs (i + 4) = a4) (ha5 : xs (i + 5) = a5) {v v2 : Int32} {μ μ2 : gM} (e1 : fX11_letter a1 a2 a3 μ = some v) (e2 : fX12_letter a1 a2 a3 μ = some (v2, μ2)) (hk : K 1534 [some (.ref b), some (.ref (g.1 + 0)), some (.ref (g.1 + 267)), some (.int (nI i))] [] μ2) : K 450 [some (.ref b), some (.ref (g.1 + 0)), some (.ref (g.1 + 267)), some (.int (nI i))] [] μ := by
  have hv1 : vp_in (nI i + 1) Ls := by rw [show nI i + 1 = nI (i + 1) from nI_add i 1]; exact vp_in_nI (by omega) hLs
  have hq1 : (nI i + 1).toNatClampNeg = i + 1 := by rw [show nI i + 1 = nI (i + 1) from nI_add i 1]; exact nI_clamp (by omega)
  have hv2 : vp_in (nI i + 2) Ls := by rw [show nI i + 2 = nI (i + 2) from nI_add i 2]; exact vp_in_nI (by omega) hLs
  have hq2 : (nI i + 2).toNatClampNeg = i + 2 := by rw [show nI i + 2 = nI (i + 2) from nI_add i 2]; exact nI_clamp (by omega)
  have hv3 : vp_in (nI i + 3) Ls := by rw [show nI i + 3 = nI (i + 3) from nI_add i 3]; exact vp_in_nI (by omega) hLs
  have hq3 : (nI i + 3).toNatClampNeg = i + 3 := by rw [show nI i + 3 = nI (i + 3) from nI_add i 3]; exact nI_clamp (by omega)
  have hv4 : vp_in (nI i + 4) Ls := by rw [show nI i + 4 = nI (i + 4) from nI_add i 4]; exact vp_in_nI (by omega) hLs
  have hq4 : (nI i + 4).toNatClampNeg = i + 4 := by rw [show nI i + 4 = nI (i + 4) from nI_add i 4]; exact nI_clamp (by omega)
  have hv5 : vp_in (nI i + 5) Ls := by rw [show nI i + 5 = nI (i + 5) from nI_add i 5]; exact vp_in_nI (by omega) hLs
  have hq5 : (nI i + 5).toNatClampNeg = i + 5 := by rw [show nI i + 5 = nI (i + 5) from nI_add i 5]; exact nI_clamp (by omega)
  refine zl_aload_n (pc := 450) h dL_law_450 rfl rfl ?_
  refine zl_aload_n (pc := 451) h dL_law_451 rfl rfl ?_
  refine zl_iload_n (pc := 452) h dL_law_452 rfl rfl ?_
  refine zl_iconst (pc := 453) (v := 1) h dL_law_453 (by decide) ?_
  refine zl_iadd (pc := 454) h dL_law_454 ?_
  refine zl_sld (pc := 455) (q := i + 1) h (hv1) (hq1) dL_law_455 ?_
  rw [ha1]
  refine zl_aload_n (pc := 456) h dL_law_456 rfl rfl ?_
  refine zl_iload_n (pc := 457) h dL_law_457 rfl rfl ?_
  refine zl_iconst (pc := 458) (v := 2) h dL_law_458 (by decide) ?_
  refine zl_iadd (pc := 459) h dL_law_459 ?_
  refine zl_sld (pc := 460) (q := i + 2) h (hv2) (hq2) dL_law_460 ?_
  rw [ha2]
  refine zl_aload_n (pc := 461) h dL_law_461 rfl rfl ?_
  refine zl_iload_n (pc := 462) h dL_law_462 rfl rfl ?_
  refine zl_iconst (pc := 463) (v := 3) h dL_law_463 (by decide) ?_
  refine zl_iadd (pc := 464) h dL_law_464 ?_
  refine zl_sld (pc := 465) (q := i + 3) h (hv3) (hq3) dL_law_465 ?_
  rw [ha3]
  refine zl_callV (pc := 466) (a := 0) (n := 3) (As := [.int a1, .int a2, .int a3]) h gkc_0 rfl zl_w992 zl_w993 zl_w994 ⟨zl_w995, zl_w180, by decide +kernel, by decide +kernel, by decide +kernel⟩ ⟨by decide, by decide⟩ (cX11_letter_ok e1) rfl (Nat.le_of_ble_eq_true rfl) dL_law_466 rfl ?_
  refine zl_pop (pc := 469) h dL_law_469 rfl ?_
  refine zl_aload_n (pc := 470) h dL_law_470 rfl rfl ?_
  refine zl_aload_n (pc := 471) h dL_law_471 rfl rfl ?_
  refine zl_iload_n (pc := 472) h dL_law_472 rfl rfl ?_
  refine zl_iconst (pc := 473) (v := 1) h dL_law_473 (by decide) ?_
  refine zl_iadd (pc := 474) h dL_law_474 ?_
  refine zl_sld (pc := 475) (q := i + 1) h (hv1) (hq1) dL_law_475 ?_
  rw [ha1]
  refine zl_aload_n (pc := 476) h dL_law_476 rfl rfl ?_
  refine zl_iload_n (pc := 477) h dL_law_477 rfl rfl ?_
  refine zl_iconst (pc := 478) (v := 2) h dL_law_478 (by decide) ?_
  refine zl_iadd (pc := 479) h dL_law_479 ?_
  refine zl_sld (pc := 480) (q := i + 2) h (hv2) (hq2) dL_law_480 ?_
  rw [ha2]
  refine zl_aload_n (pc := 481) h dL_law_481 rfl rfl ?_
  refine zl_iload_n (pc := 482) h dL_law_482 rfl rfl ?_
  refine zl_iconst (pc := 483) (v := 3) h dL_law_483 (by decide) ?_
  refine zl_iadd (pc := 484) h dL_law_484 ?_
  refine zl_sld (pc := 485) (q := i + 3) h (hv3) (hq3) dL_law_485 ?_
  rw [ha3]
  refine zl_callV (pc := 486) (a := 267) (n := 3) (As := [.int a1, .int a2, .int a3]) h gkc_267 rfl zl_w1719 zl_w1720 zl_w1721 ⟨zl_w1722, zl_w196, by decide +kernel, by decide +kernel, by decide +kernel⟩ ⟨by decide, by decide⟩ (cX12_letter_ok e2) rfl (Nat.le_of_ble_eq_true rfl) dL_law_486 rfl ?_
  refine zl_pop (pc := 489) h dL_law_489 rfl ?_
  refine zl_goto (pc := 490) (tgt := 1534) h dL_law_490 rfl ?_
  exact hk

set_option maxRecDepth 100000 in
set_option maxHeartbeats 4000000 in
theorem gl_case9 {l : Launch} {g : gG} {b Ls i : Nat} {xs : Nat → Int32} {K : gKt} (h : gLW l g b Ls xs K) (hi : i + 6 ≤ Ls) (hLs : Ls < 2 ^ 31) {a1 a2 a3 a4 a5 : Int32} (ha1 : xs (i + 1) = a1) (ha2 : xs (i + 2) = a2) (ha3 : xs (i + 3) = a3) (ha4 : xs (i + 4) = a4) (ha5 : xs (i + 5) = a5) {v v2 : Int32} {μ μ2 : gM} (e1 : fX11_track a1 a2 μ = some v) (e2 : fX12_track a1 a2 μ = some (v2, μ2)) (hk : K 1534 [some (.ref b), some (.ref (g.1 + 0)), some (.ref (g.1 + 267)), some (.int (nI i))] [] μ2) : K 493 [some (.ref b), some (.ref (g.1 + 0)), some (.ref (g.1 + 267)), some (.int (nI i))] [] μ := by
  have hv1 : vp_in (nI i + 1) Ls := by rw [show nI i + 1 = nI (i + 1) from nI_add i 1]; exact vp_in_nI (by omega) hLs
  have hq1 : (nI i + 1).toNatClampNeg = i + 1 := by rw [show nI i + 1 = nI (i + 1) from nI_add i 1]; exact nI_clamp (by omega)
  have hv2 : vp_in (nI i + 2) Ls := by rw [show nI i + 2 = nI (i + 2) from nI_add i 2]; exact vp_in_nI (by omega) hLs
  have hq2 : (nI i + 2).toNatClampNeg = i + 2 := by rw [show nI i + 2 = nI (i + 2) from nI_add i 2]; exact nI_clamp (by omega)
  have hv3 : vp_in (nI i + 3) Ls := by rw [show nI i + 3 = nI (i + 3) from nI_add i 3]; exact vp_in_nI (by omega) hLs
  have hq3 : (nI i + 3).toNatClampNeg = i + 3 := by rw [show nI i + 3 = nI (i + 3) from nI_add i 3]; exact nI_clamp (by omega)
  have hv4 : vp_in (nI i + 4) Ls := by rw [show nI i + 4 = nI (i + 4) from nI_add i 4]; exact vp_in_nI (by omega) hLs
  have hq4 : (nI i + 4).toNatClampNeg = i + 4 := by rw [show nI i + 4 = nI (i + 4) from nI_add i 4]; exact nI_clamp (by omega)
  have hv5 : vp_in (nI i + 5) Ls := by rw [show nI i + 5 = nI (i + 5) from nI_add i 5]; exact vp_in_nI (by omega) hLs
  have hq5 : (nI i + 5).toNatClampNeg = i + 5 := by rw [show nI i + 5 = nI (i + 5) from nI_add i 5]; exact nI_clamp (by omega)
  refine zl_aload_n (pc := 493) h dL_law_493 rfl rfl ?_
  refine zl_aload_n (pc := 494) h dL_law_494 rfl rfl ?_
  refine zl_iload_n (pc := 495) h dL_law_495 rfl rfl ?_
  refine zl_iconst (pc := 496) (v := 1) h dL_law_496 (by decide) ?_
  refine zl_iadd (pc := 497) h dL_law_497 ?_
  refine zl_sld (pc := 498) (q := i + 1) h (hv1) (hq1) dL_law_498 ?_
  rw [ha1]
  refine zl_aload_n (pc := 499) h dL_law_499 rfl rfl ?_
  refine zl_iload_n (pc := 500) h dL_law_500 rfl rfl ?_
  refine zl_iconst (pc := 501) (v := 2) h dL_law_501 (by decide) ?_
  refine zl_iadd (pc := 502) h dL_law_502 ?_
  refine zl_sld (pc := 503) (q := i + 2) h (hv2) (hq2) dL_law_503 ?_
  rw [ha2]
  refine zl_callV (pc := 504) (a := 0) (n := 2) (As := [.int a1, .int a2]) h gkc_0 rfl zl_w1000 zl_w1001 zl_w1002 ⟨zl_w1003, zl_w180, by decide +kernel, by decide +kernel, by decide +kernel⟩ ⟨by decide, by decide⟩ (cX11_track_ok e1) rfl (Nat.le_of_ble_eq_true rfl) dL_law_504 rfl ?_
  refine zl_pop (pc := 507) h dL_law_507 rfl ?_
  refine zl_aload_n (pc := 508) h dL_law_508 rfl rfl ?_
  refine zl_aload_n (pc := 509) h dL_law_509 rfl rfl ?_
  refine zl_iload_n (pc := 510) h dL_law_510 rfl rfl ?_
  refine zl_iconst (pc := 511) (v := 1) h dL_law_511 (by decide) ?_
  refine zl_iadd (pc := 512) h dL_law_512 ?_
  refine zl_sld (pc := 513) (q := i + 1) h (hv1) (hq1) dL_law_513 ?_
  rw [ha1]
  refine zl_aload_n (pc := 514) h dL_law_514 rfl rfl ?_
  refine zl_iload_n (pc := 515) h dL_law_515 rfl rfl ?_
  refine zl_iconst (pc := 516) (v := 2) h dL_law_516 (by decide) ?_
  refine zl_iadd (pc := 517) h dL_law_517 ?_
  refine zl_sld (pc := 518) (q := i + 2) h (hv2) (hq2) dL_law_518 ?_
  rw [ha2]
  refine zl_callV (pc := 519) (a := 267) (n := 2) (As := [.int a1, .int a2]) h gkc_267 rfl zl_w1725 zl_w1726 zl_w1727 ⟨zl_w1728, zl_w196, by decide +kernel, by decide +kernel, by decide +kernel⟩ ⟨by decide, by decide⟩ (cX12_track_ok e2) rfl (Nat.le_of_ble_eq_true rfl) dL_law_519 rfl ?_
  refine zl_pop (pc := 522) h dL_law_522 rfl ?_
  refine zl_goto (pc := 523) (tgt := 1534) h dL_law_523 rfl ?_
  exact hk

set_option maxRecDepth 100000 in
set_option maxHeartbeats 4000000 in
theorem gl_case10 {l : Launch} {g : gG} {b Ls i : Nat} {xs : Nat → Int32} {K : gKt} (h : gLW l g b Ls xs K) (hi : i + 6 ≤ Ls) (hLs : Ls < 2 ^ 31) {a1 a2 a3 a4 a5 : Int32} (ha1 : xs (i + 1) = a1) (ha2 : xs (i + 2) = a2) (ha3 : xs (i + 3) = a3) (ha4 : xs (i + 4) = a4) (ha5 : xs (i + 5) = a5) {v v2 : Int32} {μ μ2 : gM} (e1 : fX11_event a1 a2 μ = some v) (e2 : fX12_event a1 a2 μ = some (v2, μ2)) (hk : K 1534 [some (.ref b), some (.ref (g.1 + 0)), some (.ref (g.1 + 267)), some (.int (nI i))] [] μ2) : K 526 [some (.ref b), some (.ref (g.1 + 0)), some (.ref (g.1 + 267)), some (.int (nI i))] [] μ := by
  have hv1 : vp_in (nI i + 1) Ls := by rw [show nI i + 1 = nI (i + 1) from nI_add i 1]; exact vp_in_nI (by omega) hLs
  have hq1 : (nI i + 1).toNatClampNeg = i + 1 := by rw [show nI i + 1 = nI (i + 1) from nI_add i 1]; exact nI_clamp (by omega)
  have hv2 : vp_in (nI i + 2) Ls := by rw [show nI i + 2 = nI (i + 2) from nI_add i 2]; exact vp_in_nI (by omega) hLs
  have hq2 : (nI i + 2).toNatClampNeg = i + 2 := by rw [show nI i + 2 = nI (i + 2) from nI_add i 2]; exact nI_clamp (by omega)
  have hv3 : vp_in (nI i + 3) Ls := by rw [show nI i + 3 = nI (i + 3) from nI_add i 3]; exact vp_in_nI (by omega) hLs
  have hq3 : (nI i + 3).toNatClampNeg = i + 3 := by rw [show nI i + 3 = nI (i + 3) from nI_add i 3]; exact nI_clamp (by omega)
  have hv4 : vp_in (nI i + 4) Ls := by rw [show nI i + 4 = nI (i + 4) from nI_add i 4]; exact vp_in_nI (by omega) hLs
  have hq4 : (nI i + 4).toNatClampNeg = i + 4 := by rw [show nI i + 4 = nI (i + 4) from nI_add i 4]; exact nI_clamp (by omega)
  have hv5 : vp_in (nI i + 5) Ls := by rw [show nI i + 5 = nI (i + 5) from nI_add i 5]; exact vp_in_nI (by omega) hLs
  have hq5 : (nI i + 5).toNatClampNeg = i + 5 := by rw [show nI i + 5 = nI (i + 5) from nI_add i 5]; exact nI_clamp (by omega)
  refine zl_aload_n (pc := 526) h dL_law_526 rfl rfl ?_
  refine zl_aload_n (pc := 527) h dL_law_527 rfl rfl ?_
  refine zl_iload_n (pc := 528) h dL_law_528 rfl rfl ?_
  refine zl_iconst (pc := 529) (v := 1) h dL_law_529 (by decide) ?_
  refine zl_iadd (pc := 530) h dL_law_530 ?_
  refine zl_sld (pc := 531) (q := i + 1) h (hv1) (hq1) dL_law_531 ?_
  rw [ha1]
  refine zl_aload_n (pc := 532) h dL_law_532 rfl rfl ?_
  refine zl_iload_n (pc := 533) h dL_law_533 rfl rfl ?_
  refine zl_iconst (pc := 534) (v := 2) h dL_law_534 (by decide) ?_
  refine zl_iadd (pc := 535) h dL_law_535 ?_
  refine zl_sld (pc := 536) (q := i + 2) h (hv2) (hq2) dL_law_536 ?_
  rw [ha2]
  refine zl_callV (pc := 537) (a := 0) (n := 2) (As := [.int a1, .int a2]) h gkc_0 rfl zl_w1004 zl_w1005 zl_w1006 ⟨zl_w1007, zl_w180, by decide +kernel, by decide +kernel, by decide +kernel⟩ ⟨by decide, by decide⟩ (cX11_event_ok e1) rfl (Nat.le_of_ble_eq_true rfl) dL_law_537 rfl ?_
  refine zl_pop (pc := 540) h dL_law_540 rfl ?_
  refine zl_aload_n (pc := 541) h dL_law_541 rfl rfl ?_
  refine zl_aload_n (pc := 542) h dL_law_542 rfl rfl ?_
  refine zl_iload_n (pc := 543) h dL_law_543 rfl rfl ?_
  refine zl_iconst (pc := 544) (v := 1) h dL_law_544 (by decide) ?_
  refine zl_iadd (pc := 545) h dL_law_545 ?_
  refine zl_sld (pc := 546) (q := i + 1) h (hv1) (hq1) dL_law_546 ?_
  rw [ha1]
  refine zl_aload_n (pc := 547) h dL_law_547 rfl rfl ?_
  refine zl_iload_n (pc := 548) h dL_law_548 rfl rfl ?_
  refine zl_iconst (pc := 549) (v := 2) h dL_law_549 (by decide) ?_
  refine zl_iadd (pc := 550) h dL_law_550 ?_
  refine zl_sld (pc := 551) (q := i + 2) h (hv2) (hq2) dL_law_551 ?_
  rw [ha2]
  refine zl_callV (pc := 552) (a := 267) (n := 2) (As := [.int a1, .int a2]) h gkc_267 rfl zl_w1730 zl_w1731 zl_w1732 ⟨zl_w1733, zl_w196, by decide +kernel, by decide +kernel, by decide +kernel⟩ ⟨by decide, by decide⟩ (cX12_event_ok e2) rfl (Nat.le_of_ble_eq_true rfl) dL_law_552 rfl ?_
  refine zl_pop (pc := 555) h dL_law_555 rfl ?_
  refine zl_goto (pc := 556) (tgt := 1534) h dL_law_556 rfl ?_
  exact hk

set_option maxRecDepth 100000 in
set_option maxHeartbeats 4000000 in
theorem gl_case11 {l : Launch} {g : gG} {b Ls i : Nat} {xs : Nat → Int32} {K : gKt} (h : gLW l g b Ls xs K) (hi : i + 6 ≤ Ls) (hLs : Ls < 2 ^ 31) {a1 a2 a3 a4 a5 : Int32} (ha1 : xs (i + 1) = a1) (ha2 : xs (i + 2) = a2) (ha3 : xs (i + 3) = a3) (ha4 : xs (i + 4) = a4) (ha5 : xs (i + 5) = a5) {v v2 : Int32} {μ μ1 μ2 : gM} (e1 : fX11_ticks a1 μ = some (v, μ1)) (e2 : fX12_ticks a1 μ1 = some (v2, μ2)) (hk : K 1534 [some (.ref b), some (.ref (g.1 + 0)), some (.ref (g.1 + 267)), some (.int (nI i))] [] μ2) : K 559 [some (.ref b), some (.ref (g.1 + 0)), some (.ref (g.1 + 267)), some (.int (nI i))] [] μ := by
  have hv1 : vp_in (nI i + 1) Ls := by rw [show nI i + 1 = nI (i + 1) from nI_add i 1]; exact vp_in_nI (by omega) hLs
  have hq1 : (nI i + 1).toNatClampNeg = i + 1 := by rw [show nI i + 1 = nI (i + 1) from nI_add i 1]; exact nI_clamp (by omega)
  have hv2 : vp_in (nI i + 2) Ls := by rw [show nI i + 2 = nI (i + 2) from nI_add i 2]; exact vp_in_nI (by omega) hLs
  have hq2 : (nI i + 2).toNatClampNeg = i + 2 := by rw [show nI i + 2 = nI (i + 2) from nI_add i 2]; exact nI_clamp (by omega)
  have hv3 : vp_in (nI i + 3) Ls := by rw [show nI i + 3 = nI (i + 3) from nI_add i 3]; exact vp_in_nI (by omega) hLs
  have hq3 : (nI i + 3).toNatClampNeg = i + 3 := by rw [show nI i + 3 = nI (i + 3) from nI_add i 3]; exact nI_clamp (by omega)
  have hv4 : vp_in (nI i + 4) Ls := by rw [show nI i + 4 = nI (i + 4) from nI_add i 4]; exact vp_in_nI (by omega) hLs
  have hq4 : (nI i + 4).toNatClampNeg = i + 4 := by rw [show nI i + 4 = nI (i + 4) from nI_add i 4]; exact nI_clamp (by omega)
  have hv5 : vp_in (nI i + 5) Ls := by rw [show nI i + 5 = nI (i + 5) from nI_add i 5]; exact vp_in_nI (by omega) hLs
  have hq5 : (nI i + 5).toNatClampNeg = i + 5 := by rw [show nI i + 5 = nI (i + 5) from nI_add i 5]; exact nI_clamp (by omega)
  refine zl_aload_n (pc := 559) h dL_law_559 rfl rfl ?_
  refine zl_aload_n (pc := 560) h dL_law_560 rfl rfl ?_
  refine zl_iload_n (pc := 561) h dL_law_561 rfl rfl ?_
  refine zl_iconst (pc := 562) (v := 1) h dL_law_562 (by decide) ?_
  refine zl_iadd (pc := 563) h dL_law_563 ?_
  refine zl_sld (pc := 564) (q := i + 1) h (hv1) (hq1) dL_law_564 ?_
  rw [ha1]
  refine zl_callV (pc := 565) (a := 0) (n := 1) (As := [.int a1]) h gkc_0 rfl zl_w1008 zl_w1009 zl_w1010 ⟨zl_w1011, zl_w180, by decide +kernel, by decide +kernel, by decide +kernel⟩ ⟨by decide, by decide⟩ (cX11_ticks_ok e1) rfl (Nat.le_of_ble_eq_true rfl) dL_law_565 rfl ?_
  refine zl_pop (pc := 568) h dL_law_568 rfl ?_
  refine zl_aload_n (pc := 569) h dL_law_569 rfl rfl ?_
  refine zl_aload_n (pc := 570) h dL_law_570 rfl rfl ?_
  refine zl_iload_n (pc := 571) h dL_law_571 rfl rfl ?_
  refine zl_iconst (pc := 572) (v := 1) h dL_law_572 (by decide) ?_
  refine zl_iadd (pc := 573) h dL_law_573 ?_
  refine zl_sld (pc := 574) (q := i + 1) h (hv1) (hq1) dL_law_574 ?_
  rw [ha1]
  refine zl_callV (pc := 575) (a := 267) (n := 1) (As := [.int a1]) h gkc_267 rfl zl_w1735 zl_w1736 zl_w1737 ⟨zl_w1738, zl_w196, by decide +kernel, by decide +kernel, by decide +kernel⟩ ⟨by decide, by decide⟩ (cX12_ticks_ok e2) rfl (Nat.le_of_ble_eq_true rfl) dL_law_575 rfl ?_
  refine zl_pop (pc := 578) h dL_law_578 rfl ?_
  refine zl_goto (pc := 579) (tgt := 1534) h dL_law_579 rfl ?_
  exact hk

set_option maxRecDepth 100000 in
set_option maxHeartbeats 4000000 in
theorem gl_case12 {l : Launch} {g : gG} {b Ls i : Nat} {xs : Nat → Int32} {K : gKt} (h : gLW l g b Ls xs K) (hi : i + 6 ≤ Ls) (hLs : Ls < 2 ^ 31) {a1 a2 a3 a4 a5 : Int32} (ha1 : xs (i + 1) = a1) (ha2 : xs (i + 2) = a2) (ha3 : xs (i + 3) = a3) (ha4 : xs (i + 4) = a4) (ha5 : xs (i + 5) = a5) {v v2 : Int32} {μ μ1 μ2 : gM} (e1 : fX11_up a1 μ = some (v, μ1)) (e2 : fX12_up a1 μ1 = some (v2, μ2)) (hk : K 1534 [some (.ref b), some (.ref (g.1 + 0)), some (.ref (g.1 + 267)), some (.int (nI i))] [] μ2) : K 582 [some (.ref b), some (.ref (g.1 + 0)), some (.ref (g.1 + 267)), some (.int (nI i))] [] μ := by
  have hv1 : vp_in (nI i + 1) Ls := by rw [show nI i + 1 = nI (i + 1) from nI_add i 1]; exact vp_in_nI (by omega) hLs
  have hq1 : (nI i + 1).toNatClampNeg = i + 1 := by rw [show nI i + 1 = nI (i + 1) from nI_add i 1]; exact nI_clamp (by omega)
  have hv2 : vp_in (nI i + 2) Ls := by rw [show nI i + 2 = nI (i + 2) from nI_add i 2]; exact vp_in_nI (by omega) hLs
  have hq2 : (nI i + 2).toNatClampNeg = i + 2 := by rw [show nI i + 2 = nI (i + 2) from nI_add i 2]; exact nI_clamp (by omega)
  have hv3 : vp_in (nI i + 3) Ls := by rw [show nI i + 3 = nI (i + 3) from nI_add i 3]; exact vp_in_nI (by omega) hLs
  have hq3 : (nI i + 3).toNatClampNeg = i + 3 := by rw [show nI i + 3 = nI (i + 3) from nI_add i 3]; exact nI_clamp (by omega)
  have hv4 : vp_in (nI i + 4) Ls := by rw [show nI i + 4 = nI (i + 4) from nI_add i 4]; exact vp_in_nI (by omega) hLs
  have hq4 : (nI i + 4).toNatClampNeg = i + 4 := by rw [show nI i + 4 = nI (i + 4) from nI_add i 4]; exact nI_clamp (by omega)
  have hv5 : vp_in (nI i + 5) Ls := by rw [show nI i + 5 = nI (i + 5) from nI_add i 5]; exact vp_in_nI (by omega) hLs
  have hq5 : (nI i + 5).toNatClampNeg = i + 5 := by rw [show nI i + 5 = nI (i + 5) from nI_add i 5]; exact nI_clamp (by omega)
  refine zl_aload_n (pc := 582) h dL_law_582 rfl rfl ?_
  refine zl_aload_n (pc := 583) h dL_law_583 rfl rfl ?_
  refine zl_iload_n (pc := 584) h dL_law_584 rfl rfl ?_
  refine zl_iconst (pc := 585) (v := 1) h dL_law_585 (by decide) ?_
  refine zl_iadd (pc := 586) h dL_law_586 ?_
  refine zl_sld (pc := 587) (q := i + 1) h (hv1) (hq1) dL_law_587 ?_
  rw [ha1]
  refine zl_callV (pc := 588) (a := 0) (n := 1) (As := [.int a1]) h gkc_0 rfl zl_w1091 zl_w1092 zl_w1093 ⟨zl_w1094, zl_w180, by decide +kernel, by decide +kernel, by decide +kernel⟩ ⟨by decide, by decide⟩ (cX11_up_ok e1) rfl (Nat.le_of_ble_eq_true rfl) dL_law_588 rfl ?_
  refine zl_pop (pc := 591) h dL_law_591 rfl ?_
  refine zl_aload_n (pc := 592) h dL_law_592 rfl rfl ?_
  refine zl_aload_n (pc := 593) h dL_law_593 rfl rfl ?_
  refine zl_iload_n (pc := 594) h dL_law_594 rfl rfl ?_
  refine zl_iconst (pc := 595) (v := 1) h dL_law_595 (by decide) ?_
  refine zl_iadd (pc := 596) h dL_law_596 ?_
  refine zl_sld (pc := 597) (q := i + 1) h (hv1) (hq1) dL_law_597 ?_
  rw [ha1]
  refine zl_callV (pc := 598) (a := 267) (n := 1) (As := [.int a1]) h gkc_267 rfl zl_w1804 zl_w1805 zl_w1806 ⟨zl_w1807, zl_w196, by decide +kernel, by decide +kernel, by decide +kernel⟩ ⟨by decide, by decide⟩ (cX12_up_ok e2) rfl (Nat.le_of_ble_eq_true rfl) dL_law_598 rfl ?_
  refine zl_pop (pc := 601) h dL_law_601 rfl ?_
  refine zl_goto (pc := 602) (tgt := 1534) h dL_law_602 rfl ?_
  exact hk

set_option maxRecDepth 100000 in
set_option maxHeartbeats 4000000 in
theorem gl_case13 {l : Launch} {g : gG} {b Ls i : Nat} {xs : Nat → Int32} {K : gKt} (h : gLW l g b Ls xs K) (hi : i + 6 ≤ Ls) (hLs : Ls < 2 ^ 31) {a1 a2 a3 a4 a5 : Int32} (ha1 : xs (i + 1) = a1) (ha2 : xs (i + 2) = a2) (ha3 : xs (i + 3) = a3) (ha4 : xs (i + 4) = a4) (ha5 : xs (i + 5) = a5) {v v2 : Int32} {μ μ1 μ2 : gM} (e1 : fX11_down a1 (if a2 = 0 then 0 else 1) μ = some (v, μ1)) (e2 : fX12_down a1 (if a2 = 0 then 0 else 1) μ1 = some (v2, μ2)) (hk : K 1534 [some (.ref b), some (.ref (g.1 + 0)), some (.ref (g.1 + 267)), some (.int (nI i))] [] μ2) : K 605 [some (.ref b), some (.ref (g.1 + 0)), some (.ref (g.1 + 267)), some (.int (nI i))] [] μ := by
  have hv1 : vp_in (nI i + 1) Ls := by rw [show nI i + 1 = nI (i + 1) from nI_add i 1]; exact vp_in_nI (by omega) hLs
  have hq1 : (nI i + 1).toNatClampNeg = i + 1 := by rw [show nI i + 1 = nI (i + 1) from nI_add i 1]; exact nI_clamp (by omega)
  have hv2 : vp_in (nI i + 2) Ls := by rw [show nI i + 2 = nI (i + 2) from nI_add i 2]; exact vp_in_nI (by omega) hLs
  have hq2 : (nI i + 2).toNatClampNeg = i + 2 := by rw [show nI i + 2 = nI (i + 2) from nI_add i 2]; exact nI_clamp (by omega)
  have hv3 : vp_in (nI i + 3) Ls := by rw [show nI i + 3 = nI (i + 3) from nI_add i 3]; exact vp_in_nI (by omega) hLs
  have hq3 : (nI i + 3).toNatClampNeg = i + 3 := by rw [show nI i + 3 = nI (i + 3) from nI_add i 3]; exact nI_clamp (by omega)
  have hv4 : vp_in (nI i + 4) Ls := by rw [show nI i + 4 = nI (i + 4) from nI_add i 4]; exact vp_in_nI (by omega) hLs
  have hq4 : (nI i + 4).toNatClampNeg = i + 4 := by rw [show nI i + 4 = nI (i + 4) from nI_add i 4]; exact nI_clamp (by omega)
  have hv5 : vp_in (nI i + 5) Ls := by rw [show nI i + 5 = nI (i + 5) from nI_add i 5]; exact vp_in_nI (by omega) hLs
  have hq5 : (nI i + 5).toNatClampNeg = i + 5 := by rw [show nI i + 5 = nI (i + 5) from nI_add i 5]; exact nI_clamp (by omega)
  rcases Decidable.em (a2 = 0) with hz | hz
  · rw [if_pos hz] at e1 e2
    refine zl_aload_n (pc := 605) h dL_law_605 rfl rfl ?_
    refine zl_aload_n (pc := 606) h dL_law_606 rfl rfl ?_
    refine zl_iload_n (pc := 607) h dL_law_607 rfl rfl ?_
    refine zl_iconst (pc := 608) (v := 1) h dL_law_608 (by decide) ?_
    refine zl_iadd (pc := 609) h dL_law_609 ?_
    refine zl_sld (pc := 610) (q := i + 1) h (hv1) (hq1) dL_law_610 ?_
    rw [ha1]
    refine zl_aload_n (pc := 611) h dL_law_611 rfl rfl ?_
    refine zl_iload_n (pc := 612) h dL_law_612 rfl rfl ?_
    refine zl_iconst (pc := 613) (v := 2) h dL_law_613 (by decide) ?_
    refine zl_iadd (pc := 614) h dL_law_614 ?_
    refine zl_sld (pc := 615) (q := i + 2) h (hv2) (hq2) dL_law_615 ?_
    rw [ha2]
    refine zl_if_eq (pc := 616) (tgt := 623) h dL_law_616 rfl (fun _ => ?_) (fun z => absurd hz z)
    refine zl_iconst (pc := 623) (v := 0) h dL_law_623 (by decide) ?_
    refine zl_callV (pc := 624) (a := 0) (n := 2) (As := [.int a1, .int 0]) h gkc_0 rfl zl_w1097 zl_w1098 zl_w1099 ⟨zl_w1100, zl_w180, by decide +kernel, by decide +kernel, by decide +kernel⟩ ⟨by decide, by decide⟩ (cX11_down_ok e1) rfl (Nat.le_of_ble_eq_true rfl) dL_law_624 rfl ?_
    refine zl_pop (pc := 627) h dL_law_627 rfl ?_
    refine zl_aload_n (pc := 628) h dL_law_628 rfl rfl ?_
    refine zl_aload_n (pc := 629) h dL_law_629 rfl rfl ?_
    refine zl_iload_n (pc := 630) h dL_law_630 rfl rfl ?_
    refine zl_iconst (pc := 631) (v := 1) h dL_law_631 (by decide) ?_
    refine zl_iadd (pc := 632) h dL_law_632 ?_
    refine zl_sld (pc := 633) (q := i + 1) h (hv1) (hq1) dL_law_633 ?_
    rw [ha1]
    refine zl_aload_n (pc := 634) h dL_law_634 rfl rfl ?_
    refine zl_iload_n (pc := 635) h dL_law_635 rfl rfl ?_
    refine zl_iconst (pc := 636) (v := 2) h dL_law_636 (by decide) ?_
    refine zl_iadd (pc := 637) h dL_law_637 ?_
    refine zl_sld (pc := 638) (q := i + 2) h (hv2) (hq2) dL_law_638 ?_
    rw [ha2]
    refine zl_if_eq (pc := 639) (tgt := 646) h dL_law_639 rfl (fun _ => ?_) (fun z => absurd hz z)
    refine zl_iconst (pc := 646) (v := 0) h dL_law_646 (by decide) ?_
    refine zl_callV (pc := 647) (a := 267) (n := 2) (As := [.int a1, .int 0]) h gkc_267 rfl zl_w1808 zl_w1809 zl_w1810 ⟨zl_w1811, zl_w196, by decide +kernel, by decide +kernel, by decide +kernel⟩ ⟨by decide, by decide⟩ (cX12_down_ok e2) rfl (Nat.le_of_ble_eq_true rfl) dL_law_647 rfl ?_
    refine zl_pop (pc := 650) h dL_law_650 rfl ?_
    refine zl_goto (pc := 651) (tgt := 1534) h dL_law_651 rfl ?_
    exact hk
  · rw [if_neg hz] at e1 e2
    refine zl_aload_n (pc := 605) h dL_law_605 rfl rfl ?_
    refine zl_aload_n (pc := 606) h dL_law_606 rfl rfl ?_
    refine zl_iload_n (pc := 607) h dL_law_607 rfl rfl ?_
    refine zl_iconst (pc := 608) (v := 1) h dL_law_608 (by decide) ?_
    refine zl_iadd (pc := 609) h dL_law_609 ?_
    refine zl_sld (pc := 610) (q := i + 1) h (hv1) (hq1) dL_law_610 ?_
    rw [ha1]
    refine zl_aload_n (pc := 611) h dL_law_611 rfl rfl ?_
    refine zl_iload_n (pc := 612) h dL_law_612 rfl rfl ?_
    refine zl_iconst (pc := 613) (v := 2) h dL_law_613 (by decide) ?_
    refine zl_iadd (pc := 614) h dL_law_614 ?_
    refine zl_sld (pc := 615) (q := i + 2) h (hv2) (hq2) dL_law_615 ?_
    rw [ha2]
    refine zl_if_eq (pc := 616) (tgt := 623) h dL_law_616 rfl (fun z => absurd z hz) (fun _ => ?_)
    refine zl_iconst (pc := 619) (v := 1) h dL_law_619 (by decide) ?_
    refine zl_goto (pc := 620) (tgt := 624) h dL_law_620 rfl ?_
    refine zl_callV (pc := 624) (a := 0) (n := 2) (As := [.int a1, .int 1]) h gkc_0 rfl zl_w1097 zl_w1098 zl_w1099 ⟨zl_w1100, zl_w180, by decide +kernel, by decide +kernel, by decide +kernel⟩ ⟨by decide, by decide⟩ (cX11_down_ok e1) rfl (Nat.le_of_ble_eq_true rfl) dL_law_624 rfl ?_
    refine zl_pop (pc := 627) h dL_law_627 rfl ?_
    refine zl_aload_n (pc := 628) h dL_law_628 rfl rfl ?_
    refine zl_aload_n (pc := 629) h dL_law_629 rfl rfl ?_
    refine zl_iload_n (pc := 630) h dL_law_630 rfl rfl ?_
    refine zl_iconst (pc := 631) (v := 1) h dL_law_631 (by decide) ?_
    refine zl_iadd (pc := 632) h dL_law_632 ?_
    refine zl_sld (pc := 633) (q := i + 1) h (hv1) (hq1) dL_law_633 ?_
    rw [ha1]
    refine zl_aload_n (pc := 634) h dL_law_634 rfl rfl ?_
    refine zl_iload_n (pc := 635) h dL_law_635 rfl rfl ?_
    refine zl_iconst (pc := 636) (v := 2) h dL_law_636 (by decide) ?_
    refine zl_iadd (pc := 637) h dL_law_637 ?_
    refine zl_sld (pc := 638) (q := i + 2) h (hv2) (hq2) dL_law_638 ?_
    rw [ha2]
    refine zl_if_eq (pc := 639) (tgt := 646) h dL_law_639 rfl (fun z => absurd z hz) (fun _ => ?_)
    refine zl_iconst (pc := 642) (v := 1) h dL_law_642 (by decide) ?_
    refine zl_goto (pc := 643) (tgt := 647) h dL_law_643 rfl ?_
    refine zl_callV (pc := 647) (a := 267) (n := 2) (As := [.int a1, .int 1]) h gkc_267 rfl zl_w1808 zl_w1809 zl_w1810 ⟨zl_w1811, zl_w196, by decide +kernel, by decide +kernel, by decide +kernel⟩ ⟨by decide, by decide⟩ (cX12_down_ok e2) rfl (Nat.le_of_ble_eq_true rfl) dL_law_647 rfl ?_
    refine zl_pop (pc := 650) h dL_law_650 rfl ?_
    refine zl_goto (pc := 651) (tgt := 1534) h dL_law_651 rfl ?_
    exact hk

set_option maxRecDepth 100000 in
set_option maxHeartbeats 4000000 in
theorem gl_case14 {l : Launch} {g : gG} {b Ls i : Nat} {xs : Nat → Int32} {K : gKt} (h : gLW l g b Ls xs K) (hi : i + 6 ≤ Ls) (hLs : Ls < 2 ^ 31) {a1 a2 a3 a4 a5 : Int32} (ha1 : xs (i + 1) = a1) (ha2 : xs (i + 2) = a2) (ha3 : xs (i + 3) = a3) (ha4 : xs (i + 4) = a4) (ha5 : xs (i + 5) = a5) {v v2 : Int32} {μ μ1 μ2 : gM} (e1 : fX11_cut a1 (if a2 = 0 then 0 else 1) μ = some (v, μ1)) (e2 : fX12_cut a1 (if a2 = 0 then 0 else 1) μ1 = some (v2, μ2)) (hk : K 1534 [some (.ref b), some (.ref (g.1 + 0)), some (.ref (g.1 + 267)), some (.int (nI i))] [] μ2) : K 654 [some (.ref b), some (.ref (g.1 + 0)), some (.ref (g.1 + 267)), some (.int (nI i))] [] μ := by
  have hv1 : vp_in (nI i + 1) Ls := by rw [show nI i + 1 = nI (i + 1) from nI_add i 1]; exact vp_in_nI (by omega) hLs
  have hq1 : (nI i + 1).toNatClampNeg = i + 1 := by rw [show nI i + 1 = nI (i + 1) from nI_add i 1]; exact nI_clamp (by omega)
  have hv2 : vp_in (nI i + 2) Ls := by rw [show nI i + 2 = nI (i + 2) from nI_add i 2]; exact vp_in_nI (by omega) hLs
  have hq2 : (nI i + 2).toNatClampNeg = i + 2 := by rw [show nI i + 2 = nI (i + 2) from nI_add i 2]; exact nI_clamp (by omega)
  have hv3 : vp_in (nI i + 3) Ls := by rw [show nI i + 3 = nI (i + 3) from nI_add i 3]; exact vp_in_nI (by omega) hLs
  have hq3 : (nI i + 3).toNatClampNeg = i + 3 := by rw [show nI i + 3 = nI (i + 3) from nI_add i 3]; exact nI_clamp (by omega)
  have hv4 : vp_in (nI i + 4) Ls := by rw [show nI i + 4 = nI (i + 4) from nI_add i 4]; exact vp_in_nI (by omega) hLs
  have hq4 : (nI i + 4).toNatClampNeg = i + 4 := by rw [show nI i + 4 = nI (i + 4) from nI_add i 4]; exact nI_clamp (by omega)
  have hv5 : vp_in (nI i + 5) Ls := by rw [show nI i + 5 = nI (i + 5) from nI_add i 5]; exact vp_in_nI (by omega) hLs
  have hq5 : (nI i + 5).toNatClampNeg = i + 5 := by rw [show nI i + 5 = nI (i + 5) from nI_add i 5]; exact nI_clamp (by omega)
  rcases Decidable.em (a2 = 0) with hz | hz
  · rw [if_pos hz] at e1 e2
    refine zl_aload_n (pc := 654) h dL_law_654 rfl rfl ?_
    refine zl_aload_n (pc := 655) h dL_law_655 rfl rfl ?_
    refine zl_iload_n (pc := 656) h dL_law_656 rfl rfl ?_
    refine zl_iconst (pc := 657) (v := 1) h dL_law_657 (by decide) ?_
    refine zl_iadd (pc := 658) h dL_law_658 ?_
    refine zl_sld (pc := 659) (q := i + 1) h (hv1) (hq1) dL_law_659 ?_
    rw [ha1]
    refine zl_aload_n (pc := 660) h dL_law_660 rfl rfl ?_
    refine zl_iload_n (pc := 661) h dL_law_661 rfl rfl ?_
    refine zl_iconst (pc := 662) (v := 2) h dL_law_662 (by decide) ?_
    refine zl_iadd (pc := 663) h dL_law_663 ?_
    refine zl_sld (pc := 664) (q := i + 2) h (hv2) (hq2) dL_law_664 ?_
    rw [ha2]
    refine zl_if_eq (pc := 665) (tgt := 672) h dL_law_665 rfl (fun _ => ?_) (fun z => absurd hz z)
    refine zl_iconst (pc := 672) (v := 0) h dL_law_672 (by decide) ?_
    refine zl_callV (pc := 673) (a := 0) (n := 2) (As := [.int a1, .int 0]) h gkc_0 rfl zl_w1102 zl_w1103 zl_w1104 ⟨zl_w1105, zl_w180, by decide +kernel, by decide +kernel, by decide +kernel⟩ ⟨by decide, by decide⟩ (cX11_cut_ok e1) rfl (Nat.le_of_ble_eq_true rfl) dL_law_673 rfl ?_
    refine zl_pop (pc := 676) h dL_law_676 rfl ?_
    refine zl_aload_n (pc := 677) h dL_law_677 rfl rfl ?_
    refine zl_aload_n (pc := 678) h dL_law_678 rfl rfl ?_
    refine zl_iload_n (pc := 679) h dL_law_679 rfl rfl ?_
    refine zl_iconst (pc := 680) (v := 1) h dL_law_680 (by decide) ?_
    refine zl_iadd (pc := 681) h dL_law_681 ?_
    refine zl_sld (pc := 682) (q := i + 1) h (hv1) (hq1) dL_law_682 ?_
    rw [ha1]
    refine zl_aload_n (pc := 683) h dL_law_683 rfl rfl ?_
    refine zl_iload_n (pc := 684) h dL_law_684 rfl rfl ?_
    refine zl_iconst (pc := 685) (v := 2) h dL_law_685 (by decide) ?_
    refine zl_iadd (pc := 686) h dL_law_686 ?_
    refine zl_sld (pc := 687) (q := i + 2) h (hv2) (hq2) dL_law_687 ?_
    rw [ha2]
    refine zl_if_eq (pc := 688) (tgt := 695) h dL_law_688 rfl (fun _ => ?_) (fun z => absurd hz z)
    refine zl_iconst (pc := 695) (v := 0) h dL_law_695 (by decide) ?_
    refine zl_callV (pc := 696) (a := 267) (n := 2) (As := [.int a1, .int 0]) h gkc_267 rfl zl_w1812 zl_w1813 zl_w1814 ⟨zl_w1815, zl_w196, by decide +kernel, by decide +kernel, by decide +kernel⟩ ⟨by decide, by decide⟩ (cX12_cut_ok e2) rfl (Nat.le_of_ble_eq_true rfl) dL_law_696 rfl ?_
    refine zl_pop (pc := 699) h dL_law_699 rfl ?_
    refine zl_goto (pc := 700) (tgt := 1534) h dL_law_700 rfl ?_
    exact hk
  · rw [if_neg hz] at e1 e2
    refine zl_aload_n (pc := 654) h dL_law_654 rfl rfl ?_
    refine zl_aload_n (pc := 655) h dL_law_655 rfl rfl ?_
    refine zl_iload_n (pc := 656) h dL_law_656 rfl rfl ?_
    refine zl_iconst (pc := 657) (v := 1) h dL_law_657 (by decide) ?_
    refine zl_iadd (pc := 658) h dL_law_658 ?_
    refine zl_sld (pc := 659) (q := i + 1) h (hv1) (hq1) dL_law_659 ?_
    rw [ha1]
    refine zl_aload_n (pc := 660) h dL_law_660 rfl rfl ?_
    refine zl_iload_n (pc := 661) h dL_law_661 rfl rfl ?_
    refine zl_iconst (pc := 662) (v := 2) h dL_law_662 (by decide) ?_
    refine zl_iadd (pc := 663) h dL_law_663 ?_
    refine zl_sld (pc := 664) (q := i + 2) h (hv2) (hq2) dL_law_664 ?_
    rw [ha2]
    refine zl_if_eq (pc := 665) (tgt := 672) h dL_law_665 rfl (fun z => absurd z hz) (fun _ => ?_)
    refine zl_iconst (pc := 668) (v := 1) h dL_law_668 (by decide) ?_
    refine zl_goto (pc := 669) (tgt := 673) h dL_law_669 rfl ?_
    refine zl_callV (pc := 673) (a := 0) (n := 2) (As := [.int a1, .int 1]) h gkc_0 rfl zl_w1102 zl_w1103 zl_w1104 ⟨zl_w1105, zl_w180, by decide +kernel, by decide +kernel, by decide +kernel⟩ ⟨by decide, by decide⟩ (cX11_cut_ok e1) rfl (Nat.le_of_ble_eq_true rfl) dL_law_673 rfl ?_
    refine zl_pop (pc := 676) h dL_law_676 rfl ?_
    refine zl_aload_n (pc := 677) h dL_law_677 rfl rfl ?_
    refine zl_aload_n (pc := 678) h dL_law_678 rfl rfl ?_
    refine zl_iload_n (pc := 679) h dL_law_679 rfl rfl ?_
    refine zl_iconst (pc := 680) (v := 1) h dL_law_680 (by decide) ?_
    refine zl_iadd (pc := 681) h dL_law_681 ?_
    refine zl_sld (pc := 682) (q := i + 1) h (hv1) (hq1) dL_law_682 ?_
    rw [ha1]
    refine zl_aload_n (pc := 683) h dL_law_683 rfl rfl ?_
    refine zl_iload_n (pc := 684) h dL_law_684 rfl rfl ?_
    refine zl_iconst (pc := 685) (v := 2) h dL_law_685 (by decide) ?_
    refine zl_iadd (pc := 686) h dL_law_686 ?_
    refine zl_sld (pc := 687) (q := i + 2) h (hv2) (hq2) dL_law_687 ?_
    rw [ha2]
    refine zl_if_eq (pc := 688) (tgt := 695) h dL_law_688 rfl (fun z => absurd z hz) (fun _ => ?_)
    refine zl_iconst (pc := 691) (v := 1) h dL_law_691 (by decide) ?_
    refine zl_goto (pc := 692) (tgt := 696) h dL_law_692 rfl ?_
    refine zl_callV (pc := 696) (a := 267) (n := 2) (As := [.int a1, .int 1]) h gkc_267 rfl zl_w1812 zl_w1813 zl_w1814 ⟨zl_w1815, zl_w196, by decide +kernel, by decide +kernel, by decide +kernel⟩ ⟨by decide, by decide⟩ (cX12_cut_ok e2) rfl (Nat.le_of_ble_eq_true rfl) dL_law_696 rfl ?_
    refine zl_pop (pc := 699) h dL_law_699 rfl ?_
    refine zl_goto (pc := 700) (tgt := 1534) h dL_law_700 rfl ?_
    exact hk

set_option maxRecDepth 100000 in
set_option maxHeartbeats 4000000 in
theorem gl_case15 {l : Launch} {g : gG} {b Ls i : Nat} {xs : Nat → Int32} {K : gKt} (h : gLW l g b Ls xs K) (hi : i + 6 ≤ Ls) (hLs : Ls < 2 ^ 31) {a1 a2 a3 a4 a5 : Int32} (ha1 : xs (i + 1) = a1) (ha2 : xs (i + 2) = a2) (ha3 : xs (i + 3) = a3) (ha4 : xs (i + 4) = a4) (ha5 : xs (i + 5) = a5) {v v2 : Int32} {μ μ1 μ2 : gM} (e1 : fX11_split a1 μ = some (v, μ1)) (e2 : fX12_split a1 μ1 = some (v2, μ2)) (hk : K 1534 [some (.ref b), some (.ref (g.1 + 0)), some (.ref (g.1 + 267)), some (.int (nI i))] [] μ2) : K 703 [some (.ref b), some (.ref (g.1 + 0)), some (.ref (g.1 + 267)), some (.int (nI i))] [] μ := by
  have hv1 : vp_in (nI i + 1) Ls := by rw [show nI i + 1 = nI (i + 1) from nI_add i 1]; exact vp_in_nI (by omega) hLs
  have hq1 : (nI i + 1).toNatClampNeg = i + 1 := by rw [show nI i + 1 = nI (i + 1) from nI_add i 1]; exact nI_clamp (by omega)
  have hv2 : vp_in (nI i + 2) Ls := by rw [show nI i + 2 = nI (i + 2) from nI_add i 2]; exact vp_in_nI (by omega) hLs
  have hq2 : (nI i + 2).toNatClampNeg = i + 2 := by rw [show nI i + 2 = nI (i + 2) from nI_add i 2]; exact nI_clamp (by omega)
  have hv3 : vp_in (nI i + 3) Ls := by rw [show nI i + 3 = nI (i + 3) from nI_add i 3]; exact vp_in_nI (by omega) hLs
  have hq3 : (nI i + 3).toNatClampNeg = i + 3 := by rw [show nI i + 3 = nI (i + 3) from nI_add i 3]; exact nI_clamp (by omega)
  have hv4 : vp_in (nI i + 4) Ls := by rw [show nI i + 4 = nI (i + 4) from nI_add i 4]; exact vp_in_nI (by omega) hLs
  have hq4 : (nI i + 4).toNatClampNeg = i + 4 := by rw [show nI i + 4 = nI (i + 4) from nI_add i 4]; exact nI_clamp (by omega)
  have hv5 : vp_in (nI i + 5) Ls := by rw [show nI i + 5 = nI (i + 5) from nI_add i 5]; exact vp_in_nI (by omega) hLs
  have hq5 : (nI i + 5).toNatClampNeg = i + 5 := by rw [show nI i + 5 = nI (i + 5) from nI_add i 5]; exact nI_clamp (by omega)
  refine zl_aload_n (pc := 703) h dL_law_703 rfl rfl ?_
  refine zl_aload_n (pc := 704) h dL_law_704 rfl rfl ?_
  refine zl_iload_n (pc := 705) h dL_law_705 rfl rfl ?_
  refine zl_iconst (pc := 706) (v := 1) h dL_law_706 (by decide) ?_
  refine zl_iadd (pc := 707) h dL_law_707 ?_
  refine zl_sld (pc := 708) (q := i + 1) h (hv1) (hq1) dL_law_708 ?_
  rw [ha1]
  refine zl_callV (pc := 709) (a := 0) (n := 1) (As := [.int a1]) h gkc_0 rfl zl_w1111 zl_w1112 zl_w1113 ⟨zl_w1114, zl_w180, by decide +kernel, by decide +kernel, by decide +kernel⟩ ⟨by decide, by decide⟩ (cX11_split_ok e1) rfl (Nat.le_of_ble_eq_true rfl) dL_law_709 rfl ?_
  refine zl_pop (pc := 712) h dL_law_712 rfl ?_
  refine zl_aload_n (pc := 713) h dL_law_713 rfl rfl ?_
  refine zl_aload_n (pc := 714) h dL_law_714 rfl rfl ?_
  refine zl_iload_n (pc := 715) h dL_law_715 rfl rfl ?_
  refine zl_iconst (pc := 716) (v := 1) h dL_law_716 (by decide) ?_
  refine zl_iadd (pc := 717) h dL_law_717 ?_
  refine zl_sld (pc := 718) (q := i + 1) h (hv1) (hq1) dL_law_718 ?_
  rw [ha1]
  refine zl_callV (pc := 719) (a := 267) (n := 1) (As := [.int a1]) h gkc_267 rfl zl_w1816 zl_w1817 zl_w1818 ⟨zl_w1819, zl_w196, by decide +kernel, by decide +kernel, by decide +kernel⟩ ⟨by decide, by decide⟩ (cX12_split_ok e2) rfl (Nat.le_of_ble_eq_true rfl) dL_law_719 rfl ?_
  refine zl_pop (pc := 722) h dL_law_722 rfl ?_
  refine zl_goto (pc := 723) (tgt := 1534) h dL_law_723 rfl ?_
  exact hk

set_option maxRecDepth 100000 in
set_option maxHeartbeats 4000000 in
theorem gl_case16 {l : Launch} {g : gG} {b Ls i : Nat} {xs : Nat → Int32} {K : gKt} (h : gLW l g b Ls xs K) (hi : i + 6 ≤ Ls) (hLs : Ls < 2 ^ 31) {a1 a2 a3 a4 a5 : Int32} (ha1 : xs (i + 1) = a1) (ha2 : xs (i + 2) = a2) (ha3 : xs (i + 3) = a3) (ha4 : xs (i + 4) = a4) (ha5 : xs (i + 5) = a5) {v v2 : Int32} {μ μ1 μ2 : gM} (e1 : fX11_word a1 a2 a3 μ = some (v, μ1)) (e2 : fX12_word a1 a2 a3 μ1 = some (v2, μ2)) (hk : K 1534 [some (.ref b), some (.ref (g.1 + 0)), some (.ref (g.1 + 267)), some (.int (nI i))] [] μ2) : K 726 [some (.ref b), some (.ref (g.1 + 0)), some (.ref (g.1 + 267)), some (.int (nI i))] [] μ := by
  have hv1 : vp_in (nI i + 1) Ls := by rw [show nI i + 1 = nI (i + 1) from nI_add i 1]; exact vp_in_nI (by omega) hLs
  have hq1 : (nI i + 1).toNatClampNeg = i + 1 := by rw [show nI i + 1 = nI (i + 1) from nI_add i 1]; exact nI_clamp (by omega)
  have hv2 : vp_in (nI i + 2) Ls := by rw [show nI i + 2 = nI (i + 2) from nI_add i 2]; exact vp_in_nI (by omega) hLs
  have hq2 : (nI i + 2).toNatClampNeg = i + 2 := by rw [show nI i + 2 = nI (i + 2) from nI_add i 2]; exact nI_clamp (by omega)
  have hv3 : vp_in (nI i + 3) Ls := by rw [show nI i + 3 = nI (i + 3) from nI_add i 3]; exact vp_in_nI (by omega) hLs
  have hq3 : (nI i + 3).toNatClampNeg = i + 3 := by rw [show nI i + 3 = nI (i + 3) from nI_add i 3]; exact nI_clamp (by omega)
  have hv4 : vp_in (nI i + 4) Ls := by rw [show nI i + 4 = nI (i + 4) from nI_add i 4]; exact vp_in_nI (by omega) hLs
  have hq4 : (nI i + 4).toNatClampNeg = i + 4 := by rw [show nI i + 4 = nI (i + 4) from nI_add i 4]; exact nI_clamp (by omega)
  have hv5 : vp_in (nI i + 5) Ls := by rw [show nI i + 5 = nI (i + 5) from nI_add i 5]; exact vp_in_nI (by omega) hLs
  have hq5 : (nI i + 5).toNatClampNeg = i + 5 := by rw [show nI i + 5 = nI (i + 5) from nI_add i 5]; exact nI_clamp (by omega)
  refine zl_aload_n (pc := 726) h dL_law_726 rfl rfl ?_
  refine zl_aload_n (pc := 727) h dL_law_727 rfl rfl ?_
  refine zl_iload_n (pc := 728) h dL_law_728 rfl rfl ?_
  refine zl_iconst (pc := 729) (v := 1) h dL_law_729 (by decide) ?_
  refine zl_iadd (pc := 730) h dL_law_730 ?_
  refine zl_sld (pc := 731) (q := i + 1) h (hv1) (hq1) dL_law_731 ?_
  rw [ha1]
  refine zl_aload_n (pc := 732) h dL_law_732 rfl rfl ?_
  refine zl_iload_n (pc := 733) h dL_law_733 rfl rfl ?_
  refine zl_iconst (pc := 734) (v := 2) h dL_law_734 (by decide) ?_
  refine zl_iadd (pc := 735) h dL_law_735 ?_
  refine zl_sld (pc := 736) (q := i + 2) h (hv2) (hq2) dL_law_736 ?_
  rw [ha2]
  refine zl_aload_n (pc := 737) h dL_law_737 rfl rfl ?_
  refine zl_iload_n (pc := 738) h dL_law_738 rfl rfl ?_
  refine zl_iconst (pc := 739) (v := 3) h dL_law_739 (by decide) ?_
  refine zl_iadd (pc := 740) h dL_law_740 ?_
  refine zl_sld (pc := 741) (q := i + 3) h (hv3) (hq3) dL_law_741 ?_
  rw [ha3]
  refine zl_callV (pc := 742) (a := 0) (n := 3) (As := [.int a1, .int a2, .int a3]) h gkc_0 rfl zl_w1119 zl_w1120 zl_w1121 ⟨zl_w1122, zl_w180, by decide +kernel, by decide +kernel, by decide +kernel⟩ ⟨by decide, by decide⟩ (cX11_word_ok e1) rfl (Nat.le_of_ble_eq_true rfl) dL_law_742 rfl ?_
  refine zl_pop (pc := 745) h dL_law_745 rfl ?_
  refine zl_aload_n (pc := 746) h dL_law_746 rfl rfl ?_
  refine zl_aload_n (pc := 747) h dL_law_747 rfl rfl ?_
  refine zl_iload_n (pc := 748) h dL_law_748 rfl rfl ?_
  refine zl_iconst (pc := 749) (v := 1) h dL_law_749 (by decide) ?_
  refine zl_iadd (pc := 750) h dL_law_750 ?_
  refine zl_sld (pc := 751) (q := i + 1) h (hv1) (hq1) dL_law_751 ?_
  rw [ha1]
  refine zl_aload_n (pc := 752) h dL_law_752 rfl rfl ?_
  refine zl_iload_n (pc := 753) h dL_law_753 rfl rfl ?_
  refine zl_iconst (pc := 754) (v := 2) h dL_law_754 (by decide) ?_
  refine zl_iadd (pc := 755) h dL_law_755 ?_
  refine zl_sld (pc := 756) (q := i + 2) h (hv2) (hq2) dL_law_756 ?_
  rw [ha2]
  refine zl_aload_n (pc := 757) h dL_law_757 rfl rfl ?_
  refine zl_iload_n (pc := 758) h dL_law_758 rfl rfl ?_
  refine zl_iconst (pc := 759) (v := 3) h dL_law_759 (by decide) ?_
  refine zl_iadd (pc := 760) h dL_law_760 ?_
  refine zl_sld (pc := 761) (q := i + 3) h (hv3) (hq3) dL_law_761 ?_
  rw [ha3]
  refine zl_callV (pc := 762) (a := 267) (n := 3) (As := [.int a1, .int a2, .int a3]) h gkc_267 rfl zl_w1820 zl_w1821 zl_w1822 ⟨zl_w1823, zl_w196, by decide +kernel, by decide +kernel, by decide +kernel⟩ ⟨by decide, by decide⟩ (cX12_word_ok e2) rfl (Nat.le_of_ble_eq_true rfl) dL_law_762 rfl ?_
  refine zl_pop (pc := 765) h dL_law_765 rfl ?_
  refine zl_goto (pc := 766) (tgt := 1534) h dL_law_766 rfl ?_
  exact hk

set_option maxRecDepth 100000 in
set_option maxHeartbeats 4000000 in
theorem gl_case17 {l : Launch} {g : gG} {b Ls i : Nat} {xs : Nat → Int32} {K : gKt} (h : gLW l g b Ls xs K) (hi : i + 6 ≤ Ls) (hLs : Ls < 2 ^ 31) {a1 a2 a3 a4 a5 : Int32} (ha1 : xs (i + 1) = a1) (ha2 : xs (i + 2) = a2) (ha3 : xs (i + 3) = a3) (ha4 : xs (i + 4) = a4) (ha5 : xs (i + 5) = a5) {v v2 : Int32} {μ μ1 μ2 : gM} (e1 : fX11_chance a1 a2 μ = some (v, μ1)) (e2 : fX12_chance a1 a2 μ1 = some (v2, μ2)) (hk : K 1534 [some (.ref b), some (.ref (g.1 + 0)), some (.ref (g.1 + 267)), some (.int (nI i))] [] μ2) : K 769 [some (.ref b), some (.ref (g.1 + 0)), some (.ref (g.1 + 267)), some (.int (nI i))] [] μ := by
  have hv1 : vp_in (nI i + 1) Ls := by rw [show nI i + 1 = nI (i + 1) from nI_add i 1]; exact vp_in_nI (by omega) hLs
  have hq1 : (nI i + 1).toNatClampNeg = i + 1 := by rw [show nI i + 1 = nI (i + 1) from nI_add i 1]; exact nI_clamp (by omega)
  have hv2 : vp_in (nI i + 2) Ls := by rw [show nI i + 2 = nI (i + 2) from nI_add i 2]; exact vp_in_nI (by omega) hLs
  have hq2 : (nI i + 2).toNatClampNeg = i + 2 := by rw [show nI i + 2 = nI (i + 2) from nI_add i 2]; exact nI_clamp (by omega)
  have hv3 : vp_in (nI i + 3) Ls := by rw [show nI i + 3 = nI (i + 3) from nI_add i 3]; exact vp_in_nI (by omega) hLs
  have hq3 : (nI i + 3).toNatClampNeg = i + 3 := by rw [show nI i + 3 = nI (i + 3) from nI_add i 3]; exact nI_clamp (by omega)
  have hv4 : vp_in (nI i + 4) Ls := by rw [show nI i + 4 = nI (i + 4) from nI_add i 4]; exact vp_in_nI (by omega) hLs
  have hq4 : (nI i + 4).toNatClampNeg = i + 4 := by rw [show nI i + 4 = nI (i + 4) from nI_add i 4]; exact nI_clamp (by omega)
  have hv5 : vp_in (nI i + 5) Ls := by rw [show nI i + 5 = nI (i + 5) from nI_add i 5]; exact vp_in_nI (by omega) hLs
  have hq5 : (nI i + 5).toNatClampNeg = i + 5 := by rw [show nI i + 5 = nI (i + 5) from nI_add i 5]; exact nI_clamp (by omega)
  refine zl_aload_n (pc := 769) h dL_law_769 rfl rfl ?_
  refine zl_aload_n (pc := 770) h dL_law_770 rfl rfl ?_
  refine zl_iload_n (pc := 771) h dL_law_771 rfl rfl ?_
  refine zl_iconst (pc := 772) (v := 1) h dL_law_772 (by decide) ?_
  refine zl_iadd (pc := 773) h dL_law_773 ?_
  refine zl_sld (pc := 774) (q := i + 1) h (hv1) (hq1) dL_law_774 ?_
  rw [ha1]
  refine zl_aload_n (pc := 775) h dL_law_775 rfl rfl ?_
  refine zl_iload_n (pc := 776) h dL_law_776 rfl rfl ?_
  refine zl_iconst (pc := 777) (v := 2) h dL_law_777 (by decide) ?_
  refine zl_iadd (pc := 778) h dL_law_778 ?_
  refine zl_sld (pc := 779) (q := i + 2) h (hv2) (hq2) dL_law_779 ?_
  rw [ha2]
  refine zl_callV (pc := 780) (a := 0) (n := 2) (As := [.int a1, .int a2]) h gkc_0 rfl zl_w1124 zl_w1125 zl_w1126 ⟨zl_w1127, zl_w180, by decide +kernel, by decide +kernel, by decide +kernel⟩ ⟨by decide, by decide⟩ (cX11_chance_ok e1) rfl (Nat.le_of_ble_eq_true rfl) dL_law_780 rfl ?_
  refine zl_pop (pc := 783) h dL_law_783 rfl ?_
  refine zl_aload_n (pc := 784) h dL_law_784 rfl rfl ?_
  refine zl_aload_n (pc := 785) h dL_law_785 rfl rfl ?_
  refine zl_iload_n (pc := 786) h dL_law_786 rfl rfl ?_
  refine zl_iconst (pc := 787) (v := 1) h dL_law_787 (by decide) ?_
  refine zl_iadd (pc := 788) h dL_law_788 ?_
  refine zl_sld (pc := 789) (q := i + 1) h (hv1) (hq1) dL_law_789 ?_
  rw [ha1]
  refine zl_aload_n (pc := 790) h dL_law_790 rfl rfl ?_
  refine zl_iload_n (pc := 791) h dL_law_791 rfl rfl ?_
  refine zl_iconst (pc := 792) (v := 2) h dL_law_792 (by decide) ?_
  refine zl_iadd (pc := 793) h dL_law_793 ?_
  refine zl_sld (pc := 794) (q := i + 2) h (hv2) (hq2) dL_law_794 ?_
  rw [ha2]
  refine zl_callV (pc := 795) (a := 267) (n := 2) (As := [.int a1, .int a2]) h gkc_267 rfl zl_w1825 zl_w1826 zl_w1827 ⟨zl_w1828, zl_w196, by decide +kernel, by decide +kernel, by decide +kernel⟩ ⟨by decide, by decide⟩ (cX12_chance_ok e2) rfl (Nat.le_of_ble_eq_true rfl) dL_law_795 rfl ?_
  refine zl_pop (pc := 798) h dL_law_798 rfl ?_
  refine zl_goto (pc := 799) (tgt := 1534) h dL_law_799 rfl ?_
  exact hk

set_option maxRecDepth 100000 in
set_option maxHeartbeats 4000000 in
theorem gl_case18 {l : Launch} {g : gG} {b Ls i : Nat} {xs : Nat → Int32} {K : gKt} (h : gLW l g b Ls xs K) (hi : i + 6 ≤ Ls) (hLs : Ls < 2 ^ 31) {a1 a2 a3 a4 a5 : Int32} (ha1 : xs (i + 1) = a1) (ha2 : xs (i + 2) = a2) (ha3 : xs (i + 3) = a3) (ha4 : xs (i + 4) = a4) (ha5 : xs (i + 5) = a5) {v v2 : Int32} {μ μ2 : gM} (e1 : fX11_holder a1 a2 μ = some v) (e2 : fX12_holder a1 a2 μ = some (v2, μ2)) (hk : K 1534 [some (.ref b), some (.ref (g.1 + 0)), some (.ref (g.1 + 267)), some (.int (nI i))] [] μ2) : K 802 [some (.ref b), some (.ref (g.1 + 0)), some (.ref (g.1 + 267)), some (.int (nI i))] [] μ := by
  have hv1 : vp_in (nI i + 1) Ls := by rw [show nI i + 1 = nI (i + 1) from nI_add i 1]; exact vp_in_nI (by omega) hLs
  have hq1 : (nI i + 1).toNatClampNeg = i + 1 := by rw [show nI i + 1 = nI (i + 1) from nI_add i 1]; exact nI_clamp (by omega)
  have hv2 : vp_in (nI i + 2) Ls := by rw [show nI i + 2 = nI (i + 2) from nI_add i 2]; exact vp_in_nI (by omega) hLs
  have hq2 : (nI i + 2).toNatClampNeg = i + 2 := by rw [show nI i + 2 = nI (i + 2) from nI_add i 2]; exact nI_clamp (by omega)
  have hv3 : vp_in (nI i + 3) Ls := by rw [show nI i + 3 = nI (i + 3) from nI_add i 3]; exact vp_in_nI (by omega) hLs
  have hq3 : (nI i + 3).toNatClampNeg = i + 3 := by rw [show nI i + 3 = nI (i + 3) from nI_add i 3]; exact nI_clamp (by omega)
  have hv4 : vp_in (nI i + 4) Ls := by rw [show nI i + 4 = nI (i + 4) from nI_add i 4]; exact vp_in_nI (by omega) hLs
  have hq4 : (nI i + 4).toNatClampNeg = i + 4 := by rw [show nI i + 4 = nI (i + 4) from nI_add i 4]; exact nI_clamp (by omega)
  have hv5 : vp_in (nI i + 5) Ls := by rw [show nI i + 5 = nI (i + 5) from nI_add i 5]; exact vp_in_nI (by omega) hLs
  have hq5 : (nI i + 5).toNatClampNeg = i + 5 := by rw [show nI i + 5 = nI (i + 5) from nI_add i 5]; exact nI_clamp (by omega)
  refine zl_aload_n (pc := 802) h dL_law_802 rfl rfl ?_
  refine zl_aload_n (pc := 803) h dL_law_803 rfl rfl ?_
  refine zl_iload_n (pc := 804) h dL_law_804 rfl rfl ?_
  refine zl_iconst (pc := 805) (v := 1) h dL_law_805 (by decide) ?_
  refine zl_iadd (pc := 806) h dL_law_806 ?_
  refine zl_sld (pc := 807) (q := i + 1) h (hv1) (hq1) dL_law_807 ?_
  rw [ha1]
  refine zl_aload_n (pc := 808) h dL_law_808 rfl rfl ?_
  refine zl_iload_n (pc := 809) h dL_law_809 rfl rfl ?_
  refine zl_iconst (pc := 810) (v := 2) h dL_law_810 (by decide) ?_
  refine zl_iadd (pc := 811) h dL_law_811 ?_
  refine zl_sld (pc := 812) (q := i + 2) h (hv2) (hq2) dL_law_812 ?_
  rw [ha2]
  refine zl_callV (pc := 813) (a := 0) (n := 2) (As := [.int a1, .int a2]) h gkc_0 rfl zl_w1128 zl_w1129 zl_w1130 ⟨zl_w1131, zl_w180, by decide +kernel, by decide +kernel, by decide +kernel⟩ ⟨by decide, by decide⟩ (cX11_holder_ok e1) rfl (Nat.le_of_ble_eq_true rfl) dL_law_813 rfl ?_
  refine zl_pop (pc := 816) h dL_law_816 rfl ?_
  refine zl_aload_n (pc := 817) h dL_law_817 rfl rfl ?_
  refine zl_aload_n (pc := 818) h dL_law_818 rfl rfl ?_
  refine zl_iload_n (pc := 819) h dL_law_819 rfl rfl ?_
  refine zl_iconst (pc := 820) (v := 1) h dL_law_820 (by decide) ?_
  refine zl_iadd (pc := 821) h dL_law_821 ?_
  refine zl_sld (pc := 822) (q := i + 1) h (hv1) (hq1) dL_law_822 ?_
  rw [ha1]
  refine zl_aload_n (pc := 823) h dL_law_823 rfl rfl ?_
  refine zl_iload_n (pc := 824) h dL_law_824 rfl rfl ?_
  refine zl_iconst (pc := 825) (v := 2) h dL_law_825 (by decide) ?_
  refine zl_iadd (pc := 826) h dL_law_826 ?_
  refine zl_sld (pc := 827) (q := i + 2) h (hv2) (hq2) dL_law_827 ?_
  rw [ha2]
  refine zl_callV (pc := 828) (a := 267) (n := 2) (As := [.int a1, .int a2]) h gkc_267 rfl zl_w1830 zl_w1831 zl_w1832 ⟨zl_w1833, zl_w196, by decide +kernel, by decide +kernel, by decide +kernel⟩ ⟨by decide, by decide⟩ (cX12_holder_ok e2) rfl (Nat.le_of_ble_eq_true rfl) dL_law_828 rfl ?_
  refine zl_pop (pc := 831) h dL_law_831 rfl ?_
  refine zl_goto (pc := 832) (tgt := 1534) h dL_law_832 rfl ?_
  exact hk

set_option maxRecDepth 100000 in
set_option maxHeartbeats 4000000 in
theorem gl_case19 {l : Launch} {g : gG} {b Ls i : Nat} {xs : Nat → Int32} {K : gKt} (h : gLW l g b Ls xs K) (hi : i + 6 ≤ Ls) (hLs : Ls < 2 ^ 31) {a1 a2 a3 a4 a5 : Int32} (ha1 : xs (i + 1) = a1) (ha2 : xs (i + 2) = a2) (ha3 : xs (i + 3) = a3) (ha4 : xs (i + 4) = a4) (ha5 : xs (i + 5) = a5) {v v2 : Int32} {μ μ2 : gM} (e1 : fX11_doubles μ = some v) (e2 : fX12_doubles μ = some (v2, μ2)) (hk : K 1534 [some (.ref b), some (.ref (g.1 + 0)), some (.ref (g.1 + 267)), some (.int (nI i))] [] μ2) : K 835 [some (.ref b), some (.ref (g.1 + 0)), some (.ref (g.1 + 267)), some (.int (nI i))] [] μ := by
  have hv1 : vp_in (nI i + 1) Ls := by rw [show nI i + 1 = nI (i + 1) from nI_add i 1]; exact vp_in_nI (by omega) hLs
  have hq1 : (nI i + 1).toNatClampNeg = i + 1 := by rw [show nI i + 1 = nI (i + 1) from nI_add i 1]; exact nI_clamp (by omega)
  have hv2 : vp_in (nI i + 2) Ls := by rw [show nI i + 2 = nI (i + 2) from nI_add i 2]; exact vp_in_nI (by omega) hLs
  have hq2 : (nI i + 2).toNatClampNeg = i + 2 := by rw [show nI i + 2 = nI (i + 2) from nI_add i 2]; exact nI_clamp (by omega)
  have hv3 : vp_in (nI i + 3) Ls := by rw [show nI i + 3 = nI (i + 3) from nI_add i 3]; exact vp_in_nI (by omega) hLs
  have hq3 : (nI i + 3).toNatClampNeg = i + 3 := by rw [show nI i + 3 = nI (i + 3) from nI_add i 3]; exact nI_clamp (by omega)
  have hv4 : vp_in (nI i + 4) Ls := by rw [show nI i + 4 = nI (i + 4) from nI_add i 4]; exact vp_in_nI (by omega) hLs
  have hq4 : (nI i + 4).toNatClampNeg = i + 4 := by rw [show nI i + 4 = nI (i + 4) from nI_add i 4]; exact nI_clamp (by omega)
  have hv5 : vp_in (nI i + 5) Ls := by rw [show nI i + 5 = nI (i + 5) from nI_add i 5]; exact vp_in_nI (by omega) hLs
  have hq5 : (nI i + 5).toNatClampNeg = i + 5 := by rw [show nI i + 5 = nI (i + 5) from nI_add i 5]; exact nI_clamp (by omega)
  refine zl_aload_n (pc := 835) h dL_law_835 rfl rfl ?_
  refine zl_callV (pc := 836) (a := 0) (n := 0) (As := []) h gkc_0 rfl zl_w1145 zl_w1146 zl_w1147 ⟨zl_w1148, zl_w180, by decide +kernel, by decide +kernel, by decide +kernel⟩ ⟨by decide, by decide⟩ (cX11_doubles_ok e1) rfl (Nat.le_of_ble_eq_true rfl) dL_law_836 rfl ?_
  refine zl_pop (pc := 839) h dL_law_839 rfl ?_
  refine zl_aload_n (pc := 840) h dL_law_840 rfl rfl ?_
  refine zl_callV (pc := 841) (a := 267) (n := 0) (As := []) h gkc_267 rfl zl_w1846 zl_w1847 zl_w1848 ⟨zl_w1849, zl_w196, by decide +kernel, by decide +kernel, by decide +kernel⟩ ⟨by decide, by decide⟩ (cX12_doubles_ok e2) rfl (Nat.le_of_ble_eq_true rfl) dL_law_841 rfl ?_
  refine zl_pop (pc := 844) h dL_law_844 rfl ?_
  refine zl_goto (pc := 845) (tgt := 1534) h dL_law_845 rfl ?_
  exact hk

set_option maxRecDepth 100000 in
set_option maxHeartbeats 4000000 in
theorem gl_case20 {l : Launch} {g : gG} {b Ls i : Nat} {xs : Nat → Int32} {K : gKt} (h : gLW l g b Ls xs K) (hi : i + 6 ≤ Ls) (hLs : Ls < 2 ^ 31) {a1 a2 a3 a4 a5 : Int32} (ha1 : xs (i + 1) = a1) (ha2 : xs (i + 2) = a2) (ha3 : xs (i + 3) = a3) (ha4 : xs (i + 4) = a4) (ha5 : xs (i + 5) = a5) {v v2 : Int32} {μ μ2 : gM} (e1 : fX11_orphans μ = some v) (e2 : fX12_orphans μ = some (v2, μ2)) (hk : K 1534 [some (.ref b), some (.ref (g.1 + 0)), some (.ref (g.1 + 267)), some (.int (nI i))] [] μ2) : K 848 [some (.ref b), some (.ref (g.1 + 0)), some (.ref (g.1 + 267)), some (.int (nI i))] [] μ := by
  have hv1 : vp_in (nI i + 1) Ls := by rw [show nI i + 1 = nI (i + 1) from nI_add i 1]; exact vp_in_nI (by omega) hLs
  have hq1 : (nI i + 1).toNatClampNeg = i + 1 := by rw [show nI i + 1 = nI (i + 1) from nI_add i 1]; exact nI_clamp (by omega)
  have hv2 : vp_in (nI i + 2) Ls := by rw [show nI i + 2 = nI (i + 2) from nI_add i 2]; exact vp_in_nI (by omega) hLs
  have hq2 : (nI i + 2).toNatClampNeg = i + 2 := by rw [show nI i + 2 = nI (i + 2) from nI_add i 2]; exact nI_clamp (by omega)
  have hv3 : vp_in (nI i + 3) Ls := by rw [show nI i + 3 = nI (i + 3) from nI_add i 3]; exact vp_in_nI (by omega) hLs
  have hq3 : (nI i + 3).toNatClampNeg = i + 3 := by rw [show nI i + 3 = nI (i + 3) from nI_add i 3]; exact nI_clamp (by omega)
  have hv4 : vp_in (nI i + 4) Ls := by rw [show nI i + 4 = nI (i + 4) from nI_add i 4]; exact vp_in_nI (by omega) hLs
  have hq4 : (nI i + 4).toNatClampNeg = i + 4 := by rw [show nI i + 4 = nI (i + 4) from nI_add i 4]; exact nI_clamp (by omega)
  have hv5 : vp_in (nI i + 5) Ls := by rw [show nI i + 5 = nI (i + 5) from nI_add i 5]; exact vp_in_nI (by omega) hLs
  have hq5 : (nI i + 5).toNatClampNeg = i + 5 := by rw [show nI i + 5 = nI (i + 5) from nI_add i 5]; exact nI_clamp (by omega)
  refine zl_aload_n (pc := 848) h dL_law_848 rfl rfl ?_
  refine zl_callV (pc := 849) (a := 0) (n := 0) (As := []) h gkc_0 rfl zl_w1150 zl_w1151 zl_w1152 ⟨zl_w1153, zl_w180, by decide +kernel, by decide +kernel, by decide +kernel⟩ ⟨by decide, by decide⟩ (cX11_orphans_ok e1) rfl (Nat.le_of_ble_eq_true rfl) dL_law_849 rfl ?_
  refine zl_pop (pc := 852) h dL_law_852 rfl ?_
  refine zl_aload_n (pc := 853) h dL_law_853 rfl rfl ?_
  refine zl_callV (pc := 854) (a := 267) (n := 0) (As := []) h gkc_267 rfl zl_w1850 zl_w1851 zl_w1852 ⟨zl_w1853, zl_w196, by decide +kernel, by decide +kernel, by decide +kernel⟩ ⟨by decide, by decide⟩ (cX12_orphans_ok e2) rfl (Nat.le_of_ble_eq_true rfl) dL_law_854 rfl ?_
  refine zl_pop (pc := 857) h dL_law_857 rfl ?_
  refine zl_goto (pc := 858) (tgt := 1534) h dL_law_858 rfl ?_
  exact hk

set_option maxRecDepth 100000 in
set_option maxHeartbeats 4000000 in
theorem gl_case21 {l : Launch} {g : gG} {b Ls i : Nat} {xs : Nat → Int32} {K : gKt} (h : gLW l g b Ls xs K) (hi : i + 6 ≤ Ls) (hLs : Ls < 2 ^ 31) {a1 a2 a3 a4 a5 : Int32} (ha1 : xs (i + 1) = a1) (ha2 : xs (i + 2) = a2) (ha3 : xs (i + 3) = a3) (ha4 : xs (i + 4) = a4) (ha5 : xs (i + 5) = a5) {v v2 : Int32} {μ μ2 : gM} (e1 : fX11_holds a1 μ = some v) (e2 : fX12_holds a1 μ = some (v2, μ2)) (hk : K 1534 [some (.ref b), some (.ref (g.1 + 0)), some (.ref (g.1 + 267)), some (.int (nI i))] [] μ2) : K 861 [some (.ref b), some (.ref (g.1 + 0)), some (.ref (g.1 + 267)), some (.int (nI i))] [] μ := by
  have hv1 : vp_in (nI i + 1) Ls := by rw [show nI i + 1 = nI (i + 1) from nI_add i 1]; exact vp_in_nI (by omega) hLs
  have hq1 : (nI i + 1).toNatClampNeg = i + 1 := by rw [show nI i + 1 = nI (i + 1) from nI_add i 1]; exact nI_clamp (by omega)
  have hv2 : vp_in (nI i + 2) Ls := by rw [show nI i + 2 = nI (i + 2) from nI_add i 2]; exact vp_in_nI (by omega) hLs
  have hq2 : (nI i + 2).toNatClampNeg = i + 2 := by rw [show nI i + 2 = nI (i + 2) from nI_add i 2]; exact nI_clamp (by omega)
  have hv3 : vp_in (nI i + 3) Ls := by rw [show nI i + 3 = nI (i + 3) from nI_add i 3]; exact vp_in_nI (by omega) hLs
  have hq3 : (nI i + 3).toNatClampNeg = i + 3 := by rw [show nI i + 3 = nI (i + 3) from nI_add i 3]; exact nI_clamp (by omega)
  have hv4 : vp_in (nI i + 4) Ls := by rw [show nI i + 4 = nI (i + 4) from nI_add i 4]; exact vp_in_nI (by omega) hLs
  have hq4 : (nI i + 4).toNatClampNeg = i + 4 := by rw [show nI i + 4 = nI (i + 4) from nI_add i 4]; exact nI_clamp (by omega)
  have hv5 : vp_in (nI i + 5) Ls := by rw [show nI i + 5 = nI (i + 5) from nI_add i 5]; exact vp_in_nI (by omega) hLs
  have hq5 : (nI i + 5).toNatClampNeg = i + 5 := by rw [show nI i + 5 = nI (i + 5) from nI_add i 5]; exact nI_clamp (by omega)
  refine zl_aload_n (pc := 861) h dL_law_861 rfl rfl ?_
  refine zl_aload_n (pc := 862) h dL_law_862 rfl rfl ?_
  refine zl_iload_n (pc := 863) h dL_law_863 rfl rfl ?_
  refine zl_iconst (pc := 864) (v := 1) h dL_law_864 (by decide) ?_
  refine zl_iadd (pc := 865) h dL_law_865 ?_
  refine zl_sld (pc := 866) (q := i + 1) h (hv1) (hq1) dL_law_866 ?_
  rw [ha1]
  refine zl_callV (pc := 867) (a := 0) (n := 1) (As := [.int a1]) h gkc_0 rfl zl_w1154 zl_w1155 zl_w1156 ⟨zl_w1157, zl_w180, by decide +kernel, by decide +kernel, by decide +kernel⟩ ⟨by decide, by decide⟩ (cX11_holds_ok e1) rfl (Nat.le_of_ble_eq_true rfl) dL_law_867 rfl ?_
  refine zl_pop (pc := 870) h dL_law_870 rfl ?_
  refine zl_aload_n (pc := 871) h dL_law_871 rfl rfl ?_
  refine zl_aload_n (pc := 872) h dL_law_872 rfl rfl ?_
  refine zl_iload_n (pc := 873) h dL_law_873 rfl rfl ?_
  refine zl_iconst (pc := 874) (v := 1) h dL_law_874 (by decide) ?_
  refine zl_iadd (pc := 875) h dL_law_875 ?_
  refine zl_sld (pc := 876) (q := i + 1) h (hv1) (hq1) dL_law_876 ?_
  rw [ha1]
  refine zl_callV (pc := 877) (a := 267) (n := 1) (As := [.int a1]) h gkc_267 rfl zl_w1854 zl_w1855 zl_w1856 ⟨zl_w1857, zl_w196, by decide +kernel, by decide +kernel, by decide +kernel⟩ ⟨by decide, by decide⟩ (cX12_holds_ok e2) rfl (Nat.le_of_ble_eq_true rfl) dL_law_877 rfl ?_
  refine zl_pop (pc := 880) h dL_law_880 rfl ?_
  refine zl_goto (pc := 881) (tgt := 1534) h dL_law_881 rfl ?_
  exact hk

set_option maxRecDepth 100000 in
set_option maxHeartbeats 4000000 in
theorem gl_case22 {l : Launch} {g : gG} {b Ls i : Nat} {xs : Nat → Int32} {K : gKt} (h : gLW l g b Ls xs K) (hi : i + 6 ≤ Ls) (hLs : Ls < 2 ^ 31) {a1 a2 a3 a4 a5 : Int32} (ha1 : xs (i + 1) = a1) (ha2 : xs (i + 2) = a2) (ha3 : xs (i + 3) = a3) (ha4 : xs (i + 4) = a4) (ha5 : xs (i + 5) = a5) {v v2 : Int32} {μ μ1 μ2 : gM} (e1 : fX11_slot a1 a2 a3 μ = some (v, μ1)) (e2 : fX12_slot a1 a2 a3 μ1 = some (v2, μ2)) (hk : K 1534 [some (.ref b), some (.ref (g.1 + 0)), some (.ref (g.1 + 267)), some (.int (nI i))] [] μ2) : K 884 [some (.ref b), some (.ref (g.1 + 0)), some (.ref (g.1 + 267)), some (.int (nI i))] [] μ := by
  have hv1 : vp_in (nI i + 1) Ls := by rw [show nI i + 1 = nI (i + 1) from nI_add i 1]; exact vp_in_nI (by omega) hLs
  have hq1 : (nI i + 1).toNatClampNeg = i + 1 := by rw [show nI i + 1 = nI (i + 1) from nI_add i 1]; exact nI_clamp (by omega)
  have hv2 : vp_in (nI i + 2) Ls := by rw [show nI i + 2 = nI (i + 2) from nI_add i 2]; exact vp_in_nI (by omega) hLs
  have hq2 : (nI i + 2).toNatClampNeg = i + 2 := by rw [show nI i + 2 = nI (i + 2) from nI_add i 2]; exact nI_clamp (by omega)
  have hv3 : vp_in (nI i + 3) Ls := by rw [show nI i + 3 = nI (i + 3) from nI_add i 3]; exact vp_in_nI (by omega) hLs
  have hq3 : (nI i + 3).toNatClampNeg = i + 3 := by rw [show nI i + 3 = nI (i + 3) from nI_add i 3]; exact nI_clamp (by omega)
  have hv4 : vp_in (nI i + 4) Ls := by rw [show nI i + 4 = nI (i + 4) from nI_add i 4]; exact vp_in_nI (by omega) hLs
  have hq4 : (nI i + 4).toNatClampNeg = i + 4 := by rw [show nI i + 4 = nI (i + 4) from nI_add i 4]; exact nI_clamp (by omega)
  have hv5 : vp_in (nI i + 5) Ls := by rw [show nI i + 5 = nI (i + 5) from nI_add i 5]; exact vp_in_nI (by omega) hLs
  have hq5 : (nI i + 5).toNatClampNeg = i + 5 := by rw [show nI i + 5 = nI (i + 5) from nI_add i 5]; exact nI_clamp (by omega)
  refine zl_aload_n (pc := 884) h dL_law_884 rfl rfl ?_
  refine zl_aload_n (pc := 885) h dL_law_885 rfl rfl ?_
  refine zl_iload_n (pc := 886) h dL_law_886 rfl rfl ?_
  refine zl_iconst (pc := 887) (v := 1) h dL_law_887 (by decide) ?_
  refine zl_iadd (pc := 888) h dL_law_888 ?_
  refine zl_sld (pc := 889) (q := i + 1) h (hv1) (hq1) dL_law_889 ?_
  rw [ha1]
  refine zl_aload_n (pc := 890) h dL_law_890 rfl rfl ?_
  refine zl_iload_n (pc := 891) h dL_law_891 rfl rfl ?_
  refine zl_iconst (pc := 892) (v := 2) h dL_law_892 (by decide) ?_
  refine zl_iadd (pc := 893) h dL_law_893 ?_
  refine zl_sld (pc := 894) (q := i + 2) h (hv2) (hq2) dL_law_894 ?_
  rw [ha2]
  refine zl_aload_n (pc := 895) h dL_law_895 rfl rfl ?_
  refine zl_iload_n (pc := 896) h dL_law_896 rfl rfl ?_
  refine zl_iconst (pc := 897) (v := 3) h dL_law_897 (by decide) ?_
  refine zl_iadd (pc := 898) h dL_law_898 ?_
  refine zl_sld (pc := 899) (q := i + 3) h (hv3) (hq3) dL_law_899 ?_
  rw [ha3]
  refine zl_callV (pc := 900) (a := 0) (n := 3) (As := [.int a1, .int a2, .int a3]) h gkc_0 rfl zl_w1158 zl_w1159 zl_w1160 ⟨zl_w1161, zl_w180, by decide +kernel, by decide +kernel, by decide +kernel⟩ ⟨by decide, by decide⟩ (cX11_slot_ok e1) rfl (Nat.le_of_ble_eq_true rfl) dL_law_900 rfl ?_
  refine zl_pop (pc := 903) h dL_law_903 rfl ?_
  refine zl_aload_n (pc := 904) h dL_law_904 rfl rfl ?_
  refine zl_aload_n (pc := 905) h dL_law_905 rfl rfl ?_
  refine zl_iload_n (pc := 906) h dL_law_906 rfl rfl ?_
  refine zl_iconst (pc := 907) (v := 1) h dL_law_907 (by decide) ?_
  refine zl_iadd (pc := 908) h dL_law_908 ?_
  refine zl_sld (pc := 909) (q := i + 1) h (hv1) (hq1) dL_law_909 ?_
  rw [ha1]
  refine zl_aload_n (pc := 910) h dL_law_910 rfl rfl ?_
  refine zl_iload_n (pc := 911) h dL_law_911 rfl rfl ?_
  refine zl_iconst (pc := 912) (v := 2) h dL_law_912 (by decide) ?_
  refine zl_iadd (pc := 913) h dL_law_913 ?_
  refine zl_sld (pc := 914) (q := i + 2) h (hv2) (hq2) dL_law_914 ?_
  rw [ha2]
  refine zl_aload_n (pc := 915) h dL_law_915 rfl rfl ?_
  refine zl_iload_n (pc := 916) h dL_law_916 rfl rfl ?_
  refine zl_iconst (pc := 917) (v := 3) h dL_law_917 (by decide) ?_
  refine zl_iadd (pc := 918) h dL_law_918 ?_
  refine zl_sld (pc := 919) (q := i + 3) h (hv3) (hq3) dL_law_919 ?_
  rw [ha3]
  refine zl_callV (pc := 920) (a := 267) (n := 3) (As := [.int a1, .int a2, .int a3]) h gkc_267 rfl zl_w1858 zl_w1859 zl_w1860 ⟨zl_w1861, zl_w196, by decide +kernel, by decide +kernel, by decide +kernel⟩ ⟨by decide, by decide⟩ (cX12_slot_ok e2) rfl (Nat.le_of_ble_eq_true rfl) dL_law_920 rfl ?_
  refine zl_pop (pc := 923) h dL_law_923 rfl ?_
  refine zl_goto (pc := 924) (tgt := 1534) h dL_law_924 rfl ?_
  exact hk

set_option maxRecDepth 100000 in
set_option maxHeartbeats 4000000 in
theorem gl_case23 {l : Launch} {g : gG} {b Ls i : Nat} {xs : Nat → Int32} {K : gKt} (h : gLW l g b Ls xs K) (hi : i + 6 ≤ Ls) (hLs : Ls < 2 ^ 31) {a1 a2 a3 a4 a5 : Int32} (ha1 : xs (i + 1) = a1) (ha2 : xs (i + 2) = a2) (ha3 : xs (i + 3) = a3) (ha4 : xs (i + 4) = a4) (ha5 : xs (i + 5) = a5) {v v2 : Int32} {μ μ1 μ2 : gM} (e1 : fX11_slots a1 a2 μ = some (v, μ1)) (e2 : fX12_slots a1 a2 μ1 = some (v2, μ2)) (hk : K 1534 [some (.ref b), some (.ref (g.1 + 0)), some (.ref (g.1 + 267)), some (.int (nI i))] [] μ2) : K 927 [some (.ref b), some (.ref (g.1 + 0)), some (.ref (g.1 + 267)), some (.int (nI i))] [] μ := by
  have hv1 : vp_in (nI i + 1) Ls := by rw [show nI i + 1 = nI (i + 1) from nI_add i 1]; exact vp_in_nI (by omega) hLs
  have hq1 : (nI i + 1).toNatClampNeg = i + 1 := by rw [show nI i + 1 = nI (i + 1) from nI_add i 1]; exact nI_clamp (by omega)
  have hv2 : vp_in (nI i + 2) Ls := by rw [show nI i + 2 = nI (i + 2) from nI_add i 2]; exact vp_in_nI (by omega) hLs
  have hq2 : (nI i + 2).toNatClampNeg = i + 2 := by rw [show nI i + 2 = nI (i + 2) from nI_add i 2]; exact nI_clamp (by omega)
  have hv3 : vp_in (nI i + 3) Ls := by rw [show nI i + 3 = nI (i + 3) from nI_add i 3]; exact vp_in_nI (by omega) hLs
  have hq3 : (nI i + 3).toNatClampNeg = i + 3 := by rw [show nI i + 3 = nI (i + 3) from nI_add i 3]; exact nI_clamp (by omega)
  have hv4 : vp_in (nI i + 4) Ls := by rw [show nI i + 4 = nI (i + 4) from nI_add i 4]; exact vp_in_nI (by omega) hLs
  have hq4 : (nI i + 4).toNatClampNeg = i + 4 := by rw [show nI i + 4 = nI (i + 4) from nI_add i 4]; exact nI_clamp (by omega)
  have hv5 : vp_in (nI i + 5) Ls := by rw [show nI i + 5 = nI (i + 5) from nI_add i 5]; exact vp_in_nI (by omega) hLs
  have hq5 : (nI i + 5).toNatClampNeg = i + 5 := by rw [show nI i + 5 = nI (i + 5) from nI_add i 5]; exact nI_clamp (by omega)
  refine zl_aload_n (pc := 927) h dL_law_927 rfl rfl ?_
  refine zl_aload_n (pc := 928) h dL_law_928 rfl rfl ?_
  refine zl_iload_n (pc := 929) h dL_law_929 rfl rfl ?_
  refine zl_iconst (pc := 930) (v := 1) h dL_law_930 (by decide) ?_
  refine zl_iadd (pc := 931) h dL_law_931 ?_
  refine zl_sld (pc := 932) (q := i + 1) h (hv1) (hq1) dL_law_932 ?_
  rw [ha1]
  refine zl_aload_n (pc := 933) h dL_law_933 rfl rfl ?_
  refine zl_iload_n (pc := 934) h dL_law_934 rfl rfl ?_
  refine zl_iconst (pc := 935) (v := 2) h dL_law_935 (by decide) ?_
  refine zl_iadd (pc := 936) h dL_law_936 ?_
  refine zl_sld (pc := 937) (q := i + 2) h (hv2) (hq2) dL_law_937 ?_
  rw [ha2]
  refine zl_callV (pc := 938) (a := 0) (n := 2) (As := [.int a1, .int a2]) h gkc_0 rfl zl_w1175 zl_w1176 zl_w1177 ⟨zl_w1178, zl_w180, by decide +kernel, by decide +kernel, by decide +kernel⟩ ⟨by decide, by decide⟩ (cX11_slots_ok e1) rfl (Nat.le_of_ble_eq_true rfl) dL_law_938 rfl ?_
  refine zl_pop (pc := 941) h dL_law_941 rfl ?_
  refine zl_aload_n (pc := 942) h dL_law_942 rfl rfl ?_
  refine zl_aload_n (pc := 943) h dL_law_943 rfl rfl ?_
  refine zl_iload_n (pc := 944) h dL_law_944 rfl rfl ?_
  refine zl_iconst (pc := 945) (v := 1) h dL_law_945 (by decide) ?_
  refine zl_iadd (pc := 946) h dL_law_946 ?_
  refine zl_sld (pc := 947) (q := i + 1) h (hv1) (hq1) dL_law_947 ?_
  rw [ha1]
  refine zl_aload_n (pc := 948) h dL_law_948 rfl rfl ?_
  refine zl_iload_n (pc := 949) h dL_law_949 rfl rfl ?_
  refine zl_iconst (pc := 950) (v := 2) h dL_law_950 (by decide) ?_
  refine zl_iadd (pc := 951) h dL_law_951 ?_
  refine zl_sld (pc := 952) (q := i + 2) h (hv2) (hq2) dL_law_952 ?_
  rw [ha2]
  refine zl_callV (pc := 953) (a := 267) (n := 2) (As := [.int a1, .int a2]) h gkc_267 rfl zl_w1866 zl_w1867 zl_w1868 ⟨zl_w1869, zl_w196, by decide +kernel, by decide +kernel, by decide +kernel⟩ ⟨by decide, by decide⟩ (cX12_slots_ok e2) rfl (Nat.le_of_ble_eq_true rfl) dL_law_953 rfl ?_
  refine zl_pop (pc := 956) h dL_law_956 rfl ?_
  refine zl_goto (pc := 957) (tgt := 1534) h dL_law_957 rfl ?_
  exact hk

set_option maxRecDepth 100000 in
set_option maxHeartbeats 4000000 in
theorem gl_case24 {l : Launch} {g : gG} {b Ls i : Nat} {xs : Nat → Int32} {K : gKt} (h : gLW l g b Ls xs K) (hi : i + 6 ≤ Ls) (hLs : Ls < 2 ^ 31) {a1 a2 a3 a4 a5 : Int32} (ha1 : xs (i + 1) = a1) (ha2 : xs (i + 2) = a2) (ha3 : xs (i + 3) = a3) (ha4 : xs (i + 4) = a4) (ha5 : xs (i + 5) = a5) {v v2 : Int32} {μ μ1 μ2 : gM} (e1 : fX11_host a1 a2 a3 μ = some (v, μ1)) (e2 : fX12_host a1 a2 a3 μ1 = some (v2, μ2)) (hk : K 1534 [some (.ref b), some (.ref (g.1 + 0)), some (.ref (g.1 + 267)), some (.int (nI i))] [] μ2) : K 960 [some (.ref b), some (.ref (g.1 + 0)), some (.ref (g.1 + 267)), some (.int (nI i))] [] μ := by
  have hv1 : vp_in (nI i + 1) Ls := by rw [show nI i + 1 = nI (i + 1) from nI_add i 1]; exact vp_in_nI (by omega) hLs
  have hq1 : (nI i + 1).toNatClampNeg = i + 1 := by rw [show nI i + 1 = nI (i + 1) from nI_add i 1]; exact nI_clamp (by omega)
  have hv2 : vp_in (nI i + 2) Ls := by rw [show nI i + 2 = nI (i + 2) from nI_add i 2]; exact vp_in_nI (by omega) hLs
  have hq2 : (nI i + 2).toNatClampNeg = i + 2 := by rw [show nI i + 2 = nI (i + 2) from nI_add i 2]; exact nI_clamp (by omega)
  have hv3 : vp_in (nI i + 3) Ls := by rw [show nI i + 3 = nI (i + 3) from nI_add i 3]; exact vp_in_nI (by omega) hLs
  have hq3 : (nI i + 3).toNatClampNeg = i + 3 := by rw [show nI i + 3 = nI (i + 3) from nI_add i 3]; exact nI_clamp (by omega)
  have hv4 : vp_in (nI i + 4) Ls := by rw [show nI i + 4 = nI (i + 4) from nI_add i 4]; exact vp_in_nI (by omega) hLs
  have hq4 : (nI i + 4).toNatClampNeg = i + 4 := by rw [show nI i + 4 = nI (i + 4) from nI_add i 4]; exact nI_clamp (by omega)
  have hv5 : vp_in (nI i + 5) Ls := by rw [show nI i + 5 = nI (i + 5) from nI_add i 5]; exact vp_in_nI (by omega) hLs
  have hq5 : (nI i + 5).toNatClampNeg = i + 5 := by rw [show nI i + 5 = nI (i + 5) from nI_add i 5]; exact nI_clamp (by omega)
  refine zl_aload_n (pc := 960) h dL_law_960 rfl rfl ?_
  refine zl_aload_n (pc := 961) h dL_law_961 rfl rfl ?_
  refine zl_iload_n (pc := 962) h dL_law_962 rfl rfl ?_
  refine zl_iconst (pc := 963) (v := 1) h dL_law_963 (by decide) ?_
  refine zl_iadd (pc := 964) h dL_law_964 ?_
  refine zl_sld (pc := 965) (q := i + 1) h (hv1) (hq1) dL_law_965 ?_
  rw [ha1]
  refine zl_aload_n (pc := 966) h dL_law_966 rfl rfl ?_
  refine zl_iload_n (pc := 967) h dL_law_967 rfl rfl ?_
  refine zl_iconst (pc := 968) (v := 2) h dL_law_968 (by decide) ?_
  refine zl_iadd (pc := 969) h dL_law_969 ?_
  refine zl_sld (pc := 970) (q := i + 2) h (hv2) (hq2) dL_law_970 ?_
  rw [ha2]
  refine zl_aload_n (pc := 971) h dL_law_971 rfl rfl ?_
  refine zl_iload_n (pc := 972) h dL_law_972 rfl rfl ?_
  refine zl_iconst (pc := 973) (v := 3) h dL_law_973 (by decide) ?_
  refine zl_iadd (pc := 974) h dL_law_974 ?_
  refine zl_sld (pc := 975) (q := i + 3) h (hv3) (hq3) dL_law_975 ?_
  rw [ha3]
  refine zl_callV (pc := 976) (a := 0) (n := 3) (As := [.int a1, .int a2, .int a3]) h gkc_0 rfl zl_w1179 zl_w1180 zl_w1181 ⟨zl_w1182, zl_w180, by decide +kernel, by decide +kernel, by decide +kernel⟩ ⟨by decide, by decide⟩ (cX11_host_ok e1) rfl (Nat.le_of_ble_eq_true rfl) dL_law_976 rfl ?_
  refine zl_pop (pc := 979) h dL_law_979 rfl ?_
  refine zl_aload_n (pc := 980) h dL_law_980 rfl rfl ?_
  refine zl_aload_n (pc := 981) h dL_law_981 rfl rfl ?_
  refine zl_iload_n (pc := 982) h dL_law_982 rfl rfl ?_
  refine zl_iconst (pc := 983) (v := 1) h dL_law_983 (by decide) ?_
  refine zl_iadd (pc := 984) h dL_law_984 ?_
  refine zl_sld (pc := 985) (q := i + 1) h (hv1) (hq1) dL_law_985 ?_
  rw [ha1]
  refine zl_aload_n (pc := 986) h dL_law_986 rfl rfl ?_
  refine zl_iload_n (pc := 987) h dL_law_987 rfl rfl ?_
  refine zl_iconst (pc := 988) (v := 2) h dL_law_988 (by decide) ?_
  refine zl_iadd (pc := 989) h dL_law_989 ?_
  refine zl_sld (pc := 990) (q := i + 2) h (hv2) (hq2) dL_law_990 ?_
  rw [ha2]
  refine zl_aload_n (pc := 991) h dL_law_991 rfl rfl ?_
  refine zl_iload_n (pc := 992) h dL_law_992 rfl rfl ?_
  refine zl_iconst (pc := 993) (v := 3) h dL_law_993 (by decide) ?_
  refine zl_iadd (pc := 994) h dL_law_994 ?_
  refine zl_sld (pc := 995) (q := i + 3) h (hv3) (hq3) dL_law_995 ?_
  rw [ha3]
  refine zl_callV (pc := 996) (a := 267) (n := 3) (As := [.int a1, .int a2, .int a3]) h gkc_267 rfl zl_w1870 zl_w1871 zl_w1872 ⟨zl_w1873, zl_w196, by decide +kernel, by decide +kernel, by decide +kernel⟩ ⟨by decide, by decide⟩ (cX12_host_ok e2) rfl (Nat.le_of_ble_eq_true rfl) dL_law_996 rfl ?_
  refine zl_pop (pc := 999) h dL_law_999 rfl ?_
  refine zl_goto (pc := 1000) (tgt := 1534) h dL_law_1000 rfl ?_
  exact hk

set_option maxRecDepth 100000 in
set_option maxHeartbeats 4000000 in
theorem gl_case25 {l : Launch} {g : gG} {b Ls i : Nat} {xs : Nat → Int32} {K : gKt} (h : gLW l g b Ls xs K) (hi : i + 6 ≤ Ls) (hLs : Ls < 2 ^ 31) {a1 a2 a3 a4 a5 : Int32} (ha1 : xs (i + 1) = a1) (ha2 : xs (i + 2) = a2) (ha3 : xs (i + 3) = a3) (ha4 : xs (i + 4) = a4) (ha5 : xs (i + 5) = a5) {v v2 : Int32} {μ μ1 μ2 : gM} (e1 : fX11_load a1 a2 a3 μ = some (v, μ1)) (e2 : fX12_load a1 a2 a3 μ1 = some (v2, μ2)) (hk : K 1534 [some (.ref b), some (.ref (g.1 + 0)), some (.ref (g.1 + 267)), some (.int (nI i))] [] μ2) : K 1003 [some (.ref b), some (.ref (g.1 + 0)), some (.ref (g.1 + 267)), some (.int (nI i))] [] μ := by
  have hv1 : vp_in (nI i + 1) Ls := by rw [show nI i + 1 = nI (i + 1) from nI_add i 1]; exact vp_in_nI (by omega) hLs
  have hq1 : (nI i + 1).toNatClampNeg = i + 1 := by rw [show nI i + 1 = nI (i + 1) from nI_add i 1]; exact nI_clamp (by omega)
  have hv2 : vp_in (nI i + 2) Ls := by rw [show nI i + 2 = nI (i + 2) from nI_add i 2]; exact vp_in_nI (by omega) hLs
  have hq2 : (nI i + 2).toNatClampNeg = i + 2 := by rw [show nI i + 2 = nI (i + 2) from nI_add i 2]; exact nI_clamp (by omega)
  have hv3 : vp_in (nI i + 3) Ls := by rw [show nI i + 3 = nI (i + 3) from nI_add i 3]; exact vp_in_nI (by omega) hLs
  have hq3 : (nI i + 3).toNatClampNeg = i + 3 := by rw [show nI i + 3 = nI (i + 3) from nI_add i 3]; exact nI_clamp (by omega)
  have hv4 : vp_in (nI i + 4) Ls := by rw [show nI i + 4 = nI (i + 4) from nI_add i 4]; exact vp_in_nI (by omega) hLs
  have hq4 : (nI i + 4).toNatClampNeg = i + 4 := by rw [show nI i + 4 = nI (i + 4) from nI_add i 4]; exact nI_clamp (by omega)
  have hv5 : vp_in (nI i + 5) Ls := by rw [show nI i + 5 = nI (i + 5) from nI_add i 5]; exact vp_in_nI (by omega) hLs
  have hq5 : (nI i + 5).toNatClampNeg = i + 5 := by rw [show nI i + 5 = nI (i + 5) from nI_add i 5]; exact nI_clamp (by omega)
  refine zl_aload_n (pc := 1003) h dL_law_1003 rfl rfl ?_
  refine zl_aload_n (pc := 1004) h dL_law_1004 rfl rfl ?_
  refine zl_iload_n (pc := 1005) h dL_law_1005 rfl rfl ?_
  refine zl_iconst (pc := 1006) (v := 1) h dL_law_1006 (by decide) ?_
  refine zl_iadd (pc := 1007) h dL_law_1007 ?_
  refine zl_sld (pc := 1008) (q := i + 1) h (hv1) (hq1) dL_law_1008 ?_
  rw [ha1]
  refine zl_aload_n (pc := 1009) h dL_law_1009 rfl rfl ?_
  refine zl_iload_n (pc := 1010) h dL_law_1010 rfl rfl ?_
  refine zl_iconst (pc := 1011) (v := 2) h dL_law_1011 (by decide) ?_
  refine zl_iadd (pc := 1012) h dL_law_1012 ?_
  refine zl_sld (pc := 1013) (q := i + 2) h (hv2) (hq2) dL_law_1013 ?_
  rw [ha2]
  refine zl_aload_n (pc := 1014) h dL_law_1014 rfl rfl ?_
  refine zl_iload_n (pc := 1015) h dL_law_1015 rfl rfl ?_
  refine zl_iconst (pc := 1016) (v := 3) h dL_law_1016 (by decide) ?_
  refine zl_iadd (pc := 1017) h dL_law_1017 ?_
  refine zl_sld (pc := 1018) (q := i + 3) h (hv3) (hq3) dL_law_1018 ?_
  rw [ha3]
  refine zl_callV (pc := 1019) (a := 0) (n := 3) (As := [.int a1, .int a2, .int a3]) h gkc_0 rfl zl_w1183 zl_w1184 zl_w1185 ⟨zl_w1186, zl_w180, by decide +kernel, by decide +kernel, by decide +kernel⟩ ⟨by decide, by decide⟩ (cX11_load_ok e1) rfl (Nat.le_of_ble_eq_true rfl) dL_law_1019 rfl ?_
  refine zl_pop (pc := 1022) h dL_law_1022 rfl ?_
  refine zl_aload_n (pc := 1023) h dL_law_1023 rfl rfl ?_
  refine zl_aload_n (pc := 1024) h dL_law_1024 rfl rfl ?_
  refine zl_iload_n (pc := 1025) h dL_law_1025 rfl rfl ?_
  refine zl_iconst (pc := 1026) (v := 1) h dL_law_1026 (by decide) ?_
  refine zl_iadd (pc := 1027) h dL_law_1027 ?_
  refine zl_sld (pc := 1028) (q := i + 1) h (hv1) (hq1) dL_law_1028 ?_
  rw [ha1]
  refine zl_aload_n (pc := 1029) h dL_law_1029 rfl rfl ?_
  refine zl_iload_n (pc := 1030) h dL_law_1030 rfl rfl ?_
  refine zl_iconst (pc := 1031) (v := 2) h dL_law_1031 (by decide) ?_
  refine zl_iadd (pc := 1032) h dL_law_1032 ?_
  refine zl_sld (pc := 1033) (q := i + 2) h (hv2) (hq2) dL_law_1033 ?_
  rw [ha2]
  refine zl_aload_n (pc := 1034) h dL_law_1034 rfl rfl ?_
  refine zl_iload_n (pc := 1035) h dL_law_1035 rfl rfl ?_
  refine zl_iconst (pc := 1036) (v := 3) h dL_law_1036 (by decide) ?_
  refine zl_iadd (pc := 1037) h dL_law_1037 ?_
  refine zl_sld (pc := 1038) (q := i + 3) h (hv3) (hq3) dL_law_1038 ?_
  rw [ha3]
  refine zl_callV (pc := 1039) (a := 267) (n := 3) (As := [.int a1, .int a2, .int a3]) h gkc_267 rfl zl_w1874 zl_w1875 zl_w1876 ⟨zl_w1877, zl_w196, by decide +kernel, by decide +kernel, by decide +kernel⟩ ⟨by decide, by decide⟩ (cX12_load_ok e2) rfl (Nat.le_of_ble_eq_true rfl) dL_law_1039 rfl ?_
  refine zl_pop (pc := 1042) h dL_law_1042 rfl ?_
  refine zl_goto (pc := 1043) (tgt := 1534) h dL_law_1043 rfl ?_
  exact hk

set_option maxRecDepth 100000 in
set_option maxHeartbeats 4000000 in
theorem gl_case26 {l : Launch} {g : gG} {b Ls i : Nat} {xs : Nat → Int32} {K : gKt} (h : gLW l g b Ls xs K) (hi : i + 6 ≤ Ls) (hLs : Ls < 2 ^ 31) {a1 a2 a3 a4 a5 : Int32} (ha1 : xs (i + 1) = a1) (ha2 : xs (i + 2) = a2) (ha3 : xs (i + 3) = a3) (ha4 : xs (i + 4) = a4) (ha5 : xs (i + 5) = a5) {v v2 : Int32} {μ μ1 μ2 : gM} (e1 : fX11_ahead a1 a2 μ = some (v, μ1)) (e2 : fX12_ahead a1 a2 μ1 = some (v2, μ2)) (hk : K 1534 [some (.ref b), some (.ref (g.1 + 0)), some (.ref (g.1 + 267)), some (.int (nI i))] [] μ2) : K 1046 [some (.ref b), some (.ref (g.1 + 0)), some (.ref (g.1 + 267)), some (.int (nI i))] [] μ := by
  have hv1 : vp_in (nI i + 1) Ls := by rw [show nI i + 1 = nI (i + 1) from nI_add i 1]; exact vp_in_nI (by omega) hLs
  have hq1 : (nI i + 1).toNatClampNeg = i + 1 := by rw [show nI i + 1 = nI (i + 1) from nI_add i 1]; exact nI_clamp (by omega)
  have hv2 : vp_in (nI i + 2) Ls := by rw [show nI i + 2 = nI (i + 2) from nI_add i 2]; exact vp_in_nI (by omega) hLs
  have hq2 : (nI i + 2).toNatClampNeg = i + 2 := by rw [show nI i + 2 = nI (i + 2) from nI_add i 2]; exact nI_clamp (by omega)
  have hv3 : vp_in (nI i + 3) Ls := by rw [show nI i + 3 = nI (i + 3) from nI_add i 3]; exact vp_in_nI (by omega) hLs
  have hq3 : (nI i + 3).toNatClampNeg = i + 3 := by rw [show nI i + 3 = nI (i + 3) from nI_add i 3]; exact nI_clamp (by omega)
  have hv4 : vp_in (nI i + 4) Ls := by rw [show nI i + 4 = nI (i + 4) from nI_add i 4]; exact vp_in_nI (by omega) hLs
  have hq4 : (nI i + 4).toNatClampNeg = i + 4 := by rw [show nI i + 4 = nI (i + 4) from nI_add i 4]; exact nI_clamp (by omega)
  have hv5 : vp_in (nI i + 5) Ls := by rw [show nI i + 5 = nI (i + 5) from nI_add i 5]; exact vp_in_nI (by omega) hLs
  have hq5 : (nI i + 5).toNatClampNeg = i + 5 := by rw [show nI i + 5 = nI (i + 5) from nI_add i 5]; exact nI_clamp (by omega)
  refine zl_aload_n (pc := 1046) h dL_law_1046 rfl rfl ?_
  refine zl_aload_n (pc := 1047) h dL_law_1047 rfl rfl ?_
  refine zl_iload_n (pc := 1048) h dL_law_1048 rfl rfl ?_
  refine zl_iconst (pc := 1049) (v := 1) h dL_law_1049 (by decide) ?_
  refine zl_iadd (pc := 1050) h dL_law_1050 ?_
  refine zl_sld (pc := 1051) (q := i + 1) h (hv1) (hq1) dL_law_1051 ?_
  rw [ha1]
  refine zl_aload_n (pc := 1052) h dL_law_1052 rfl rfl ?_
  refine zl_iload_n (pc := 1053) h dL_law_1053 rfl rfl ?_
  refine zl_iconst (pc := 1054) (v := 2) h dL_law_1054 (by decide) ?_
  refine zl_iadd (pc := 1055) h dL_law_1055 ?_
  refine zl_sld (pc := 1056) (q := i + 2) h (hv2) (hq2) dL_law_1056 ?_
  rw [ha2]
  refine zl_callV (pc := 1057) (a := 0) (n := 2) (As := [.int a1, .int a2]) h gkc_0 rfl zl_w1191 zl_w1192 zl_w1193 ⟨zl_w1194, zl_w180, by decide +kernel, by decide +kernel, by decide +kernel⟩ ⟨by decide, by decide⟩ (cX11_ahead_ok e1) rfl (Nat.le_of_ble_eq_true rfl) dL_law_1057 rfl ?_
  refine zl_pop (pc := 1060) h dL_law_1060 rfl ?_
  refine zl_aload_n (pc := 1061) h dL_law_1061 rfl rfl ?_
  refine zl_aload_n (pc := 1062) h dL_law_1062 rfl rfl ?_
  refine zl_iload_n (pc := 1063) h dL_law_1063 rfl rfl ?_
  refine zl_iconst (pc := 1064) (v := 1) h dL_law_1064 (by decide) ?_
  refine zl_iadd (pc := 1065) h dL_law_1065 ?_
  refine zl_sld (pc := 1066) (q := i + 1) h (hv1) (hq1) dL_law_1066 ?_
  rw [ha1]
  refine zl_aload_n (pc := 1067) h dL_law_1067 rfl rfl ?_
  refine zl_iload_n (pc := 1068) h dL_law_1068 rfl rfl ?_
  refine zl_iconst (pc := 1069) (v := 2) h dL_law_1069 (by decide) ?_
  refine zl_iadd (pc := 1070) h dL_law_1070 ?_
  refine zl_sld (pc := 1071) (q := i + 2) h (hv2) (hq2) dL_law_1071 ?_
  rw [ha2]
  refine zl_callV (pc := 1072) (a := 267) (n := 2) (As := [.int a1, .int a2]) h gkc_267 rfl zl_w1879 zl_w1880 zl_w1881 ⟨zl_w1882, zl_w196, by decide +kernel, by decide +kernel, by decide +kernel⟩ ⟨by decide, by decide⟩ (cX12_ahead_ok e2) rfl (Nat.le_of_ble_eq_true rfl) dL_law_1072 rfl ?_
  refine zl_pop (pc := 1075) h dL_law_1075 rfl ?_
  refine zl_goto (pc := 1076) (tgt := 1534) h dL_law_1076 rfl ?_
  exact hk

set_option maxRecDepth 100000 in
set_option maxHeartbeats 4000000 in
theorem gl_case27 {l : Launch} {g : gG} {b Ls i : Nat} {xs : Nat → Int32} {K : gKt} (h : gLW l g b Ls xs K) (hi : i + 6 ≤ Ls) (hLs : Ls < 2 ^ 31) {a1 a2 a3 a4 a5 : Int32} (ha1 : xs (i + 1) = a1) (ha2 : xs (i + 2) = a2) (ha3 : xs (i + 3) = a3) (ha4 : xs (i + 4) = a4) (ha5 : xs (i + 5) = a5) {v v2 : Int32} {μ μ1 μ2 : gM} (e1 : fX11_fails a1 a2 a3 μ = some (v, μ1)) (e2 : fX12_fails a1 a2 a3 μ1 = some (v2, μ2)) (hk : K 1534 [some (.ref b), some (.ref (g.1 + 0)), some (.ref (g.1 + 267)), some (.int (nI i))] [] μ2) : K 1079 [some (.ref b), some (.ref (g.1 + 0)), some (.ref (g.1 + 267)), some (.int (nI i))] [] μ := by
  have hv1 : vp_in (nI i + 1) Ls := by rw [show nI i + 1 = nI (i + 1) from nI_add i 1]; exact vp_in_nI (by omega) hLs
  have hq1 : (nI i + 1).toNatClampNeg = i + 1 := by rw [show nI i + 1 = nI (i + 1) from nI_add i 1]; exact nI_clamp (by omega)
  have hv2 : vp_in (nI i + 2) Ls := by rw [show nI i + 2 = nI (i + 2) from nI_add i 2]; exact vp_in_nI (by omega) hLs
  have hq2 : (nI i + 2).toNatClampNeg = i + 2 := by rw [show nI i + 2 = nI (i + 2) from nI_add i 2]; exact nI_clamp (by omega)
  have hv3 : vp_in (nI i + 3) Ls := by rw [show nI i + 3 = nI (i + 3) from nI_add i 3]; exact vp_in_nI (by omega) hLs
  have hq3 : (nI i + 3).toNatClampNeg = i + 3 := by rw [show nI i + 3 = nI (i + 3) from nI_add i 3]; exact nI_clamp (by omega)
  have hv4 : vp_in (nI i + 4) Ls := by rw [show nI i + 4 = nI (i + 4) from nI_add i 4]; exact vp_in_nI (by omega) hLs
  have hq4 : (nI i + 4).toNatClampNeg = i + 4 := by rw [show nI i + 4 = nI (i + 4) from nI_add i 4]; exact nI_clamp (by omega)
  have hv5 : vp_in (nI i + 5) Ls := by rw [show nI i + 5 = nI (i + 5) from nI_add i 5]; exact vp_in_nI (by omega) hLs
  have hq5 : (nI i + 5).toNatClampNeg = i + 5 := by rw [show nI i + 5 = nI (i + 5) from nI_add i 5]; exact nI_clamp (by omega)
  refine zl_aload_n (pc := 1079) h dL_law_1079 rfl rfl ?_
  refine zl_aload_n (pc := 1080) h dL_law_1080 rfl rfl ?_
  refine zl_iload_n (pc := 1081) h dL_law_1081 rfl rfl ?_
  refine zl_iconst (pc := 1082) (v := 1) h dL_law_1082 (by decide) ?_
  refine zl_iadd (pc := 1083) h dL_law_1083 ?_
  refine zl_sld (pc := 1084) (q := i + 1) h (hv1) (hq1) dL_law_1084 ?_
  rw [ha1]
  refine zl_aload_n (pc := 1085) h dL_law_1085 rfl rfl ?_
  refine zl_iload_n (pc := 1086) h dL_law_1086 rfl rfl ?_
  refine zl_iconst (pc := 1087) (v := 2) h dL_law_1087 (by decide) ?_
  refine zl_iadd (pc := 1088) h dL_law_1088 ?_
  refine zl_sld (pc := 1089) (q := i + 2) h (hv2) (hq2) dL_law_1089 ?_
  rw [ha2]
  refine zl_aload_n (pc := 1090) h dL_law_1090 rfl rfl ?_
  refine zl_iload_n (pc := 1091) h dL_law_1091 rfl rfl ?_
  refine zl_iconst (pc := 1092) (v := 3) h dL_law_1092 (by decide) ?_
  refine zl_iadd (pc := 1093) h dL_law_1093 ?_
  refine zl_sld (pc := 1094) (q := i + 3) h (hv3) (hq3) dL_law_1094 ?_
  rw [ha3]
  refine zl_callV (pc := 1095) (a := 0) (n := 3) (As := [.int a1, .int a2, .int a3]) h gkc_0 rfl zl_w1214 zl_w1215 zl_w1216 ⟨zl_w1217, zl_w180, by decide +kernel, by decide +kernel, by decide +kernel⟩ ⟨by decide, by decide⟩ (cX11_fails_ok e1) rfl (Nat.le_of_ble_eq_true rfl) dL_law_1095 rfl ?_
  refine zl_pop (pc := 1098) h dL_law_1098 rfl ?_
  refine zl_aload_n (pc := 1099) h dL_law_1099 rfl rfl ?_
  refine zl_aload_n (pc := 1100) h dL_law_1100 rfl rfl ?_
  refine zl_iload_n (pc := 1101) h dL_law_1101 rfl rfl ?_
  refine zl_iconst (pc := 1102) (v := 1) h dL_law_1102 (by decide) ?_
  refine zl_iadd (pc := 1103) h dL_law_1103 ?_
  refine zl_sld (pc := 1104) (q := i + 1) h (hv1) (hq1) dL_law_1104 ?_
  rw [ha1]
  refine zl_aload_n (pc := 1105) h dL_law_1105 rfl rfl ?_
  refine zl_iload_n (pc := 1106) h dL_law_1106 rfl rfl ?_
  refine zl_iconst (pc := 1107) (v := 2) h dL_law_1107 (by decide) ?_
  refine zl_iadd (pc := 1108) h dL_law_1108 ?_
  refine zl_sld (pc := 1109) (q := i + 2) h (hv2) (hq2) dL_law_1109 ?_
  rw [ha2]
  refine zl_aload_n (pc := 1110) h dL_law_1110 rfl rfl ?_
  refine zl_iload_n (pc := 1111) h dL_law_1111 rfl rfl ?_
  refine zl_iconst (pc := 1112) (v := 3) h dL_law_1112 (by decide) ?_
  refine zl_iadd (pc := 1113) h dL_law_1113 ?_
  refine zl_sld (pc := 1114) (q := i + 3) h (hv3) (hq3) dL_law_1114 ?_
  rw [ha3]
  refine zl_callV (pc := 1115) (a := 267) (n := 3) (As := [.int a1, .int a2, .int a3]) h gkc_267 rfl zl_w1903 zl_w1904 zl_w1905 ⟨zl_w1906, zl_w196, by decide +kernel, by decide +kernel, by decide +kernel⟩ ⟨by decide, by decide⟩ (cX12_fails_ok e2) rfl (Nat.le_of_ble_eq_true rfl) dL_law_1115 rfl ?_
  refine zl_pop (pc := 1118) h dL_law_1118 rfl ?_
  refine zl_goto (pc := 1119) (tgt := 1534) h dL_law_1119 rfl ?_
  exact hk

set_option maxRecDepth 100000 in
set_option maxHeartbeats 4000000 in
theorem gl_case28 {l : Launch} {g : gG} {b Ls i : Nat} {xs : Nat → Int32} {K : gKt} (h : gLW l g b Ls xs K) (hi : i + 6 ≤ Ls) (hLs : Ls < 2 ^ 31) {a1 a2 a3 a4 a5 : Int32} (ha1 : xs (i + 1) = a1) (ha2 : xs (i + 2) = a2) (ha3 : xs (i + 3) = a3) (ha4 : xs (i + 4) = a4) (ha5 : xs (i + 5) = a5) {v v2 : Int32} {μ μ1 μ2 : gM} (e1 : fX11_worst a1 a2 μ = some (v, μ1)) (e2 : fX12_worst a1 a2 μ1 = some (v2, μ2)) (hk : K 1534 [some (.ref b), some (.ref (g.1 + 0)), some (.ref (g.1 + 267)), some (.int (nI i))] [] μ2) : K 1122 [some (.ref b), some (.ref (g.1 + 0)), some (.ref (g.1 + 267)), some (.int (nI i))] [] μ := by
  have hv1 : vp_in (nI i + 1) Ls := by rw [show nI i + 1 = nI (i + 1) from nI_add i 1]; exact vp_in_nI (by omega) hLs
  have hq1 : (nI i + 1).toNatClampNeg = i + 1 := by rw [show nI i + 1 = nI (i + 1) from nI_add i 1]; exact nI_clamp (by omega)
  have hv2 : vp_in (nI i + 2) Ls := by rw [show nI i + 2 = nI (i + 2) from nI_add i 2]; exact vp_in_nI (by omega) hLs
  have hq2 : (nI i + 2).toNatClampNeg = i + 2 := by rw [show nI i + 2 = nI (i + 2) from nI_add i 2]; exact nI_clamp (by omega)
  have hv3 : vp_in (nI i + 3) Ls := by rw [show nI i + 3 = nI (i + 3) from nI_add i 3]; exact vp_in_nI (by omega) hLs
  have hq3 : (nI i + 3).toNatClampNeg = i + 3 := by rw [show nI i + 3 = nI (i + 3) from nI_add i 3]; exact nI_clamp (by omega)
  have hv4 : vp_in (nI i + 4) Ls := by rw [show nI i + 4 = nI (i + 4) from nI_add i 4]; exact vp_in_nI (by omega) hLs
  have hq4 : (nI i + 4).toNatClampNeg = i + 4 := by rw [show nI i + 4 = nI (i + 4) from nI_add i 4]; exact nI_clamp (by omega)
  have hv5 : vp_in (nI i + 5) Ls := by rw [show nI i + 5 = nI (i + 5) from nI_add i 5]; exact vp_in_nI (by omega) hLs
  have hq5 : (nI i + 5).toNatClampNeg = i + 5 := by rw [show nI i + 5 = nI (i + 5) from nI_add i 5]; exact nI_clamp (by omega)
  refine zl_aload_n (pc := 1122) h dL_law_1122 rfl rfl ?_
  refine zl_aload_n (pc := 1123) h dL_law_1123 rfl rfl ?_
  refine zl_iload_n (pc := 1124) h dL_law_1124 rfl rfl ?_
  refine zl_iconst (pc := 1125) (v := 1) h dL_law_1125 (by decide) ?_
  refine zl_iadd (pc := 1126) h dL_law_1126 ?_
  refine zl_sld (pc := 1127) (q := i + 1) h (hv1) (hq1) dL_law_1127 ?_
  rw [ha1]
  refine zl_aload_n (pc := 1128) h dL_law_1128 rfl rfl ?_
  refine zl_iload_n (pc := 1129) h dL_law_1129 rfl rfl ?_
  refine zl_iconst (pc := 1130) (v := 2) h dL_law_1130 (by decide) ?_
  refine zl_iadd (pc := 1131) h dL_law_1131 ?_
  refine zl_sld (pc := 1132) (q := i + 2) h (hv2) (hq2) dL_law_1132 ?_
  rw [ha2]
  refine zl_callV (pc := 1133) (a := 0) (n := 2) (As := [.int a1, .int a2]) h gkc_0 rfl zl_w1237 zl_w1238 zl_w1239 ⟨zl_w1240, zl_w180, by decide +kernel, by decide +kernel, by decide +kernel⟩ ⟨by decide, by decide⟩ (cX11_worst_ok e1) rfl (Nat.le_of_ble_eq_true rfl) dL_law_1133 rfl ?_
  refine zl_pop (pc := 1136) h dL_law_1136 rfl ?_
  refine zl_aload_n (pc := 1137) h dL_law_1137 rfl rfl ?_
  refine zl_aload_n (pc := 1138) h dL_law_1138 rfl rfl ?_
  refine zl_iload_n (pc := 1139) h dL_law_1139 rfl rfl ?_
  refine zl_iconst (pc := 1140) (v := 1) h dL_law_1140 (by decide) ?_
  refine zl_iadd (pc := 1141) h dL_law_1141 ?_
  refine zl_sld (pc := 1142) (q := i + 1) h (hv1) (hq1) dL_law_1142 ?_
  rw [ha1]
  refine zl_aload_n (pc := 1143) h dL_law_1143 rfl rfl ?_
  refine zl_iload_n (pc := 1144) h dL_law_1144 rfl rfl ?_
  refine zl_iconst (pc := 1145) (v := 2) h dL_law_1145 (by decide) ?_
  refine zl_iadd (pc := 1146) h dL_law_1146 ?_
  refine zl_sld (pc := 1147) (q := i + 2) h (hv2) (hq2) dL_law_1147 ?_
  rw [ha2]
  refine zl_callV (pc := 1148) (a := 267) (n := 2) (As := [.int a1, .int a2]) h gkc_267 rfl zl_w1911 zl_w1912 zl_w1913 ⟨zl_w1914, zl_w196, by decide +kernel, by decide +kernel, by decide +kernel⟩ ⟨by decide, by decide⟩ (cX12_worst_ok e2) rfl (Nat.le_of_ble_eq_true rfl) dL_law_1148 rfl ?_
  refine zl_pop (pc := 1151) h dL_law_1151 rfl ?_
  refine zl_goto (pc := 1152) (tgt := 1534) h dL_law_1152 rfl ?_
  exact hk

set_option maxRecDepth 100000 in
set_option maxHeartbeats 4000000 in
theorem gl_case29 {l : Launch} {g : gG} {b Ls i : Nat} {xs : Nat → Int32} {K : gKt} (h : gLW l g b Ls xs K) (hi : i + 6 ≤ Ls) (hLs : Ls < 2 ^ 31) {a1 a2 a3 a4 a5 : Int32} (ha1 : xs (i + 1) = a1) (ha2 : xs (i + 2) = a2) (ha3 : xs (i + 3) = a3) (ha4 : xs (i + 4) = a4) (ha5 : xs (i + 5) = a5) {v v2 : Int32} {μ μ1 μ2 : gM} (e1 : fX11_settles μ = some (v, μ1)) (e2 : fX12_settles μ1 = some (v, μ2)) (hk : K 1534 [some (.ref b), some (.ref (g.1 + 0)), some (.ref (g.1 + 267)), some (.int (nI i))] [] μ2) : K 1155 [some (.ref b), some (.ref (g.1 + 0)), some (.ref (g.1 + 267)), some (.int (nI i))] [] μ := by
  have hv1 : vp_in (nI i + 1) Ls := by rw [show nI i + 1 = nI (i + 1) from nI_add i 1]; exact vp_in_nI (by omega) hLs
  have hq1 : (nI i + 1).toNatClampNeg = i + 1 := by rw [show nI i + 1 = nI (i + 1) from nI_add i 1]; exact nI_clamp (by omega)
  have hv2 : vp_in (nI i + 2) Ls := by rw [show nI i + 2 = nI (i + 2) from nI_add i 2]; exact vp_in_nI (by omega) hLs
  have hq2 : (nI i + 2).toNatClampNeg = i + 2 := by rw [show nI i + 2 = nI (i + 2) from nI_add i 2]; exact nI_clamp (by omega)
  have hv3 : vp_in (nI i + 3) Ls := by rw [show nI i + 3 = nI (i + 3) from nI_add i 3]; exact vp_in_nI (by omega) hLs
  have hq3 : (nI i + 3).toNatClampNeg = i + 3 := by rw [show nI i + 3 = nI (i + 3) from nI_add i 3]; exact nI_clamp (by omega)
  have hv4 : vp_in (nI i + 4) Ls := by rw [show nI i + 4 = nI (i + 4) from nI_add i 4]; exact vp_in_nI (by omega) hLs
  have hq4 : (nI i + 4).toNatClampNeg = i + 4 := by rw [show nI i + 4 = nI (i + 4) from nI_add i 4]; exact nI_clamp (by omega)
  have hv5 : vp_in (nI i + 5) Ls := by rw [show nI i + 5 = nI (i + 5) from nI_add i 5]; exact vp_in_nI (by omega) hLs
  have hq5 : (nI i + 5).toNatClampNeg = i + 5 := by rw [show nI i + 5 = nI (i + 5) from nI_add i 5]; exact nI_clamp (by omega)
  refine zl_aload_n (pc := 1155) h dL_law_1155 rfl rfl ?_
  refine zl_callV (pc := 1156) (a := 0) (n := 0) (As := []) h gkc_0 rfl zl_w1241 zl_w1242 zl_w1243 ⟨zl_w1244, zl_w180, by decide +kernel, by decide +kernel, by decide +kernel⟩ ⟨by decide, by decide⟩ (cX11_settles_ok e1) rfl (Nat.le_of_ble_eq_true rfl) dL_law_1156 rfl ?_
  refine zl_aload_n (pc := 1159) h dL_law_1159 rfl rfl ?_
  refine zl_callV (pc := 1160) (a := 267) (n := 0) (As := []) h gkc_267 rfl zl_w1915 zl_w1916 zl_w1917 ⟨zl_w1918, zl_w196, by decide +kernel, by decide +kernel, by decide +kernel⟩ ⟨by decide, by decide⟩ (cX12_settles_ok e2) rfl (Nat.le_of_ble_eq_true rfl) dL_law_1160 rfl ?_
  exact zl_icmp_eq (pc := 1163) (tgt := 1534) h dL_law_1163 rfl (fun _ => hk) (fun z => absurd rfl z)

set_option maxRecDepth 100000 in
set_option maxHeartbeats 4000000 in
theorem gl_case30 {l : Launch} {g : gG} {b Ls i : Nat} {xs : Nat → Int32} {K : gKt} (h : gLW l g b Ls xs K) (hi : i + 6 ≤ Ls) (hLs : Ls < 2 ^ 31) {a1 a2 a3 a4 a5 : Int32} (ha1 : xs (i + 1) = a1) (ha2 : xs (i + 2) = a2) (ha3 : xs (i + 3) = a3) (ha4 : xs (i + 4) = a4) (ha5 : xs (i + 5) = a5) {v v2 : Int32} {μ μ1 μ2 : gM} (e1 : fX11_least a1 a2 μ = some (v, μ1)) (e2 : fX12_least a1 a2 μ1 = some (v2, μ2)) (hk : K 1534 [some (.ref b), some (.ref (g.1 + 0)), some (.ref (g.1 + 267)), some (.int (nI i))] [] μ2) : K 1168 [some (.ref b), some (.ref (g.1 + 0)), some (.ref (g.1 + 267)), some (.int (nI i))] [] μ := by
  have hv1 : vp_in (nI i + 1) Ls := by rw [show nI i + 1 = nI (i + 1) from nI_add i 1]; exact vp_in_nI (by omega) hLs
  have hq1 : (nI i + 1).toNatClampNeg = i + 1 := by rw [show nI i + 1 = nI (i + 1) from nI_add i 1]; exact nI_clamp (by omega)
  have hv2 : vp_in (nI i + 2) Ls := by rw [show nI i + 2 = nI (i + 2) from nI_add i 2]; exact vp_in_nI (by omega) hLs
  have hq2 : (nI i + 2).toNatClampNeg = i + 2 := by rw [show nI i + 2 = nI (i + 2) from nI_add i 2]; exact nI_clamp (by omega)
  have hv3 : vp_in (nI i + 3) Ls := by rw [show nI i + 3 = nI (i + 3) from nI_add i 3]; exact vp_in_nI (by omega) hLs
  have hq3 : (nI i + 3).toNatClampNeg = i + 3 := by rw [show nI i + 3 = nI (i + 3) from nI_add i 3]; exact nI_clamp (by omega)
  have hv4 : vp_in (nI i + 4) Ls := by rw [show nI i + 4 = nI (i + 4) from nI_add i 4]; exact vp_in_nI (by omega) hLs
  have hq4 : (nI i + 4).toNatClampNeg = i + 4 := by rw [show nI i + 4 = nI (i + 4) from nI_add i 4]; exact nI_clamp (by omega)
  have hv5 : vp_in (nI i + 5) Ls := by rw [show nI i + 5 = nI (i + 5) from nI_add i 5]; exact vp_in_nI (by omega) hLs
  have hq5 : (nI i + 5).toNatClampNeg = i + 5 := by rw [show nI i + 5 = nI (i + 5) from nI_add i 5]; exact nI_clamp (by omega)
  refine zl_aload_n (pc := 1168) h dL_law_1168 rfl rfl ?_
  refine zl_aload_n (pc := 1169) h dL_law_1169 rfl rfl ?_
  refine zl_iload_n (pc := 1170) h dL_law_1170 rfl rfl ?_
  refine zl_iconst (pc := 1171) (v := 1) h dL_law_1171 (by decide) ?_
  refine zl_iadd (pc := 1172) h dL_law_1172 ?_
  refine zl_sld (pc := 1173) (q := i + 1) h (hv1) (hq1) dL_law_1173 ?_
  rw [ha1]
  refine zl_aload_n (pc := 1174) h dL_law_1174 rfl rfl ?_
  refine zl_iload_n (pc := 1175) h dL_law_1175 rfl rfl ?_
  refine zl_iconst (pc := 1176) (v := 2) h dL_law_1176 (by decide) ?_
  refine zl_iadd (pc := 1177) h dL_law_1177 ?_
  refine zl_sld (pc := 1178) (q := i + 2) h (hv2) (hq2) dL_law_1178 ?_
  rw [ha2]
  refine zl_callV (pc := 1179) (a := 0) (n := 2) (As := [.int a1, .int a2]) h gkc_0 rfl zl_w1253 zl_w1254 zl_w1255 ⟨zl_w1256, zl_w180, by decide +kernel, by decide +kernel, by decide +kernel⟩ ⟨by decide, by decide⟩ (cX11_least_ok e1) rfl (Nat.le_of_ble_eq_true rfl) dL_law_1179 rfl ?_
  refine zl_pop (pc := 1182) h dL_law_1182 rfl ?_
  refine zl_aload_n (pc := 1183) h dL_law_1183 rfl rfl ?_
  refine zl_aload_n (pc := 1184) h dL_law_1184 rfl rfl ?_
  refine zl_iload_n (pc := 1185) h dL_law_1185 rfl rfl ?_
  refine zl_iconst (pc := 1186) (v := 1) h dL_law_1186 (by decide) ?_
  refine zl_iadd (pc := 1187) h dL_law_1187 ?_
  refine zl_sld (pc := 1188) (q := i + 1) h (hv1) (hq1) dL_law_1188 ?_
  rw [ha1]
  refine zl_aload_n (pc := 1189) h dL_law_1189 rfl rfl ?_
  refine zl_iload_n (pc := 1190) h dL_law_1190 rfl rfl ?_
  refine zl_iconst (pc := 1191) (v := 2) h dL_law_1191 (by decide) ?_
  refine zl_iadd (pc := 1192) h dL_law_1192 ?_
  refine zl_sld (pc := 1193) (q := i + 2) h (hv2) (hq2) dL_law_1193 ?_
  rw [ha2]
  refine zl_callV (pc := 1194) (a := 267) (n := 2) (As := [.int a1, .int a2]) h gkc_267 rfl zl_w1919 zl_w1920 zl_w1921 ⟨zl_w1922, zl_w196, by decide +kernel, by decide +kernel, by decide +kernel⟩ ⟨by decide, by decide⟩ (cX12_least_ok e2) rfl (Nat.le_of_ble_eq_true rfl) dL_law_1194 rfl ?_
  refine zl_pop (pc := 1197) h dL_law_1197 rfl ?_
  refine zl_goto (pc := 1198) (tgt := 1534) h dL_law_1198 rfl ?_
  exact hk

set_option maxRecDepth 100000 in
set_option maxHeartbeats 4000000 in
theorem gl_case31 {l : Launch} {g : gG} {b Ls i : Nat} {xs : Nat → Int32} {K : gKt} (h : gLW l g b Ls xs K) (hi : i + 6 ≤ Ls) (hLs : Ls < 2 ^ 31) {a1 a2 a3 a4 a5 : Int32} (ha1 : xs (i + 1) = a1) (ha2 : xs (i + 2) = a2) (ha3 : xs (i + 3) = a3) (ha4 : xs (i + 4) = a4) (ha5 : xs (i + 5) = a5) {v v2 : Int32} {μ μ1 μ2 : gM} (e1 : fX11_flaps a1 a2 μ = some (v, μ1)) (e2 : fX12_flaps a1 a2 μ1 = some (v2, μ2)) (hk : K 1534 [some (.ref b), some (.ref (g.1 + 0)), some (.ref (g.1 + 267)), some (.int (nI i))] [] μ2) : K 1201 [some (.ref b), some (.ref (g.1 + 0)), some (.ref (g.1 + 267)), some (.int (nI i))] [] μ := by
  have hv1 : vp_in (nI i + 1) Ls := by rw [show nI i + 1 = nI (i + 1) from nI_add i 1]; exact vp_in_nI (by omega) hLs
  have hq1 : (nI i + 1).toNatClampNeg = i + 1 := by rw [show nI i + 1 = nI (i + 1) from nI_add i 1]; exact nI_clamp (by omega)
  have hv2 : vp_in (nI i + 2) Ls := by rw [show nI i + 2 = nI (i + 2) from nI_add i 2]; exact vp_in_nI (by omega) hLs
  have hq2 : (nI i + 2).toNatClampNeg = i + 2 := by rw [show nI i + 2 = nI (i + 2) from nI_add i 2]; exact nI_clamp (by omega)
  have hv3 : vp_in (nI i + 3) Ls := by rw [show nI i + 3 = nI (i + 3) from nI_add i 3]; exact vp_in_nI (by omega) hLs
  have hq3 : (nI i + 3).toNatClampNeg = i + 3 := by rw [show nI i + 3 = nI (i + 3) from nI_add i 3]; exact nI_clamp (by omega)
  have hv4 : vp_in (nI i + 4) Ls := by rw [show nI i + 4 = nI (i + 4) from nI_add i 4]; exact vp_in_nI (by omega) hLs
  have hq4 : (nI i + 4).toNatClampNeg = i + 4 := by rw [show nI i + 4 = nI (i + 4) from nI_add i 4]; exact nI_clamp (by omega)
  have hv5 : vp_in (nI i + 5) Ls := by rw [show nI i + 5 = nI (i + 5) from nI_add i 5]; exact vp_in_nI (by omega) hLs
  have hq5 : (nI i + 5).toNatClampNeg = i + 5 := by rw [show nI i + 5 = nI (i + 5) from nI_add i 5]; exact nI_clamp (by omega)
  refine zl_aload_n (pc := 1201) h dL_law_1201 rfl rfl ?_
  refine zl_aload_n (pc := 1202) h dL_law_1202 rfl rfl ?_
  refine zl_iload_n (pc := 1203) h dL_law_1203 rfl rfl ?_
  refine zl_iconst (pc := 1204) (v := 1) h dL_law_1204 (by decide) ?_
  refine zl_iadd (pc := 1205) h dL_law_1205 ?_
  refine zl_sld (pc := 1206) (q := i + 1) h (hv1) (hq1) dL_law_1206 ?_
  rw [ha1]
  refine zl_aload_n (pc := 1207) h dL_law_1207 rfl rfl ?_
  refine zl_iload_n (pc := 1208) h dL_law_1208 rfl rfl ?_
  refine zl_iconst (pc := 1209) (v := 2) h dL_law_1209 (by decide) ?_
  refine zl_iadd (pc := 1210) h dL_law_1210 ?_
  refine zl_sld (pc := 1211) (q := i + 2) h (hv2) (hq2) dL_law_1211 ?_
  rw [ha2]
  refine zl_callV (pc := 1212) (a := 0) (n := 2) (As := [.int a1, .int a2]) h gkc_0 rfl zl_w1263 zl_w1264 zl_w1265 ⟨zl_w1266, zl_w180, by decide +kernel, by decide +kernel, by decide +kernel⟩ ⟨by decide, by decide⟩ (cX11_flaps_ok e1) rfl (Nat.le_of_ble_eq_true rfl) dL_law_1212 rfl ?_
  refine zl_pop (pc := 1215) h dL_law_1215 rfl ?_
  refine zl_aload_n (pc := 1216) h dL_law_1216 rfl rfl ?_
  refine zl_aload_n (pc := 1217) h dL_law_1217 rfl rfl ?_
  refine zl_iload_n (pc := 1218) h dL_law_1218 rfl rfl ?_
  refine zl_iconst (pc := 1219) (v := 1) h dL_law_1219 (by decide) ?_
  refine zl_iadd (pc := 1220) h dL_law_1220 ?_
  refine zl_sld (pc := 1221) (q := i + 1) h (hv1) (hq1) dL_law_1221 ?_
  rw [ha1]
  refine zl_aload_n (pc := 1222) h dL_law_1222 rfl rfl ?_
  refine zl_iload_n (pc := 1223) h dL_law_1223 rfl rfl ?_
  refine zl_iconst (pc := 1224) (v := 2) h dL_law_1224 (by decide) ?_
  refine zl_iadd (pc := 1225) h dL_law_1225 ?_
  refine zl_sld (pc := 1226) (q := i + 2) h (hv2) (hq2) dL_law_1226 ?_
  rw [ha2]
  refine zl_callV (pc := 1227) (a := 267) (n := 2) (As := [.int a1, .int a2]) h gkc_267 rfl zl_w1923 zl_w1924 zl_w1925 ⟨zl_w1926, zl_w196, by decide +kernel, by decide +kernel, by decide +kernel⟩ ⟨by decide, by decide⟩ (cX12_flaps_ok e2) rfl (Nat.le_of_ble_eq_true rfl) dL_law_1227 rfl ?_
  refine zl_pop (pc := 1230) h dL_law_1230 rfl ?_
  refine zl_goto (pc := 1231) (tgt := 1534) h dL_law_1231 rfl ?_
  exact hk

set_option maxRecDepth 100000 in
set_option maxHeartbeats 4000000 in
theorem gl_case32 {l : Launch} {g : gG} {b Ls i : Nat} {xs : Nat → Int32} {K : gKt} (h : gLW l g b Ls xs K) (hi : i + 6 ≤ Ls) (hLs : Ls < 2 ^ 31) {a1 a2 a3 a4 a5 : Int32} (ha1 : xs (i + 1) = a1) (ha2 : xs (i + 2) = a2) (ha3 : xs (i + 3) = a3) (ha4 : xs (i + 4) = a4) (ha5 : xs (i + 5) = a5) {v v2 : Int32} {μ μ1 μ2 : gM} (e1 : fX11_needs a1 a2 μ = some (v, μ1)) (e2 : fX12_needs a1 a2 μ1 = some (v2, μ2)) (hk : K 1534 [some (.ref b), some (.ref (g.1 + 0)), some (.ref (g.1 + 267)), some (.int (nI i))] [] μ2) : K 1234 [some (.ref b), some (.ref (g.1 + 0)), some (.ref (g.1 + 267)), some (.int (nI i))] [] μ := by
  have hv1 : vp_in (nI i + 1) Ls := by rw [show nI i + 1 = nI (i + 1) from nI_add i 1]; exact vp_in_nI (by omega) hLs
  have hq1 : (nI i + 1).toNatClampNeg = i + 1 := by rw [show nI i + 1 = nI (i + 1) from nI_add i 1]; exact nI_clamp (by omega)
  have hv2 : vp_in (nI i + 2) Ls := by rw [show nI i + 2 = nI (i + 2) from nI_add i 2]; exact vp_in_nI (by omega) hLs
  have hq2 : (nI i + 2).toNatClampNeg = i + 2 := by rw [show nI i + 2 = nI (i + 2) from nI_add i 2]; exact nI_clamp (by omega)
  have hv3 : vp_in (nI i + 3) Ls := by rw [show nI i + 3 = nI (i + 3) from nI_add i 3]; exact vp_in_nI (by omega) hLs
  have hq3 : (nI i + 3).toNatClampNeg = i + 3 := by rw [show nI i + 3 = nI (i + 3) from nI_add i 3]; exact nI_clamp (by omega)
  have hv4 : vp_in (nI i + 4) Ls := by rw [show nI i + 4 = nI (i + 4) from nI_add i 4]; exact vp_in_nI (by omega) hLs
  have hq4 : (nI i + 4).toNatClampNeg = i + 4 := by rw [show nI i + 4 = nI (i + 4) from nI_add i 4]; exact nI_clamp (by omega)
  have hv5 : vp_in (nI i + 5) Ls := by rw [show nI i + 5 = nI (i + 5) from nI_add i 5]; exact vp_in_nI (by omega) hLs
  have hq5 : (nI i + 5).toNatClampNeg = i + 5 := by rw [show nI i + 5 = nI (i + 5) from nI_add i 5]; exact nI_clamp (by omega)
  refine zl_aload_n (pc := 1234) h dL_law_1234 rfl rfl ?_
  refine zl_aload_n (pc := 1235) h dL_law_1235 rfl rfl ?_
  refine zl_iload_n (pc := 1236) h dL_law_1236 rfl rfl ?_
  refine zl_iconst (pc := 1237) (v := 1) h dL_law_1237 (by decide) ?_
  refine zl_iadd (pc := 1238) h dL_law_1238 ?_
  refine zl_sld (pc := 1239) (q := i + 1) h (hv1) (hq1) dL_law_1239 ?_
  rw [ha1]
  refine zl_aload_n (pc := 1240) h dL_law_1240 rfl rfl ?_
  refine zl_iload_n (pc := 1241) h dL_law_1241 rfl rfl ?_
  refine zl_iconst (pc := 1242) (v := 2) h dL_law_1242 (by decide) ?_
  refine zl_iadd (pc := 1243) h dL_law_1243 ?_
  refine zl_sld (pc := 1244) (q := i + 2) h (hv2) (hq2) dL_law_1244 ?_
  rw [ha2]
  refine zl_callV (pc := 1245) (a := 0) (n := 2) (As := [.int a1, .int a2]) h gkc_0 rfl zl_w1275 zl_w1276 zl_w1277 ⟨zl_w1278, zl_w180, by decide +kernel, by decide +kernel, by decide +kernel⟩ ⟨by decide, by decide⟩ (cX11_needs_ok e1) rfl (Nat.le_of_ble_eq_true rfl) dL_law_1245 rfl ?_
  refine zl_pop (pc := 1248) h dL_law_1248 rfl ?_
  refine zl_aload_n (pc := 1249) h dL_law_1249 rfl rfl ?_
  refine zl_aload_n (pc := 1250) h dL_law_1250 rfl rfl ?_
  refine zl_iload_n (pc := 1251) h dL_law_1251 rfl rfl ?_
  refine zl_iconst (pc := 1252) (v := 1) h dL_law_1252 (by decide) ?_
  refine zl_iadd (pc := 1253) h dL_law_1253 ?_
  refine zl_sld (pc := 1254) (q := i + 1) h (hv1) (hq1) dL_law_1254 ?_
  rw [ha1]
  refine zl_aload_n (pc := 1255) h dL_law_1255 rfl rfl ?_
  refine zl_iload_n (pc := 1256) h dL_law_1256 rfl rfl ?_
  refine zl_iconst (pc := 1257) (v := 2) h dL_law_1257 (by decide) ?_
  refine zl_iadd (pc := 1258) h dL_law_1258 ?_
  refine zl_sld (pc := 1259) (q := i + 2) h (hv2) (hq2) dL_law_1259 ?_
  rw [ha2]
  refine zl_callV (pc := 1260) (a := 267) (n := 2) (As := [.int a1, .int a2]) h gkc_267 rfl zl_w1927 zl_w1928 zl_w1929 ⟨zl_w1930, zl_w196, by decide +kernel, by decide +kernel, by decide +kernel⟩ ⟨by decide, by decide⟩ (cX12_needs_ok e2) rfl (Nat.le_of_ble_eq_true rfl) dL_law_1260 rfl ?_
  refine zl_pop (pc := 1263) h dL_law_1263 rfl ?_
  refine zl_goto (pc := 1264) (tgt := 1534) h dL_law_1264 rfl ?_
  exact hk

set_option maxRecDepth 100000 in
set_option maxHeartbeats 4000000 in
theorem gl_case33 {l : Launch} {g : gG} {b Ls i : Nat} {xs : Nat → Int32} {K : gKt} (h : gLW l g b Ls xs K) (hi : i + 6 ≤ Ls) (hLs : Ls < 2 ^ 31) {a1 a2 a3 a4 a5 : Int32} (ha1 : xs (i + 1) = a1) (ha2 : xs (i + 2) = a2) (ha3 : xs (i + 3) = a3) (ha4 : xs (i + 4) = a4) (ha5 : xs (i + 5) = a5) {v v2 : Int32} {μ μ1 μ2 : gM} (e1 : fX11_letters a1 μ = some (v, μ1)) (e2 : fX12_letters a1 μ1 = some (v2, μ2)) (hk : K 1534 [some (.ref b), some (.ref (g.1 + 0)), some (.ref (g.1 + 267)), some (.int (nI i))] [] μ2) : K 1267 [some (.ref b), some (.ref (g.1 + 0)), some (.ref (g.1 + 267)), some (.int (nI i))] [] μ := by
  have hv1 : vp_in (nI i + 1) Ls := by rw [show nI i + 1 = nI (i + 1) from nI_add i 1]; exact vp_in_nI (by omega) hLs
  have hq1 : (nI i + 1).toNatClampNeg = i + 1 := by rw [show nI i + 1 = nI (i + 1) from nI_add i 1]; exact nI_clamp (by omega)
  have hv2 : vp_in (nI i + 2) Ls := by rw [show nI i + 2 = nI (i + 2) from nI_add i 2]; exact vp_in_nI (by omega) hLs
  have hq2 : (nI i + 2).toNatClampNeg = i + 2 := by rw [show nI i + 2 = nI (i + 2) from nI_add i 2]; exact nI_clamp (by omega)
  have hv3 : vp_in (nI i + 3) Ls := by rw [show nI i + 3 = nI (i + 3) from nI_add i 3]; exact vp_in_nI (by omega) hLs
  have hq3 : (nI i + 3).toNatClampNeg = i + 3 := by rw [show nI i + 3 = nI (i + 3) from nI_add i 3]; exact nI_clamp (by omega)
  have hv4 : vp_in (nI i + 4) Ls := by rw [show nI i + 4 = nI (i + 4) from nI_add i 4]; exact vp_in_nI (by omega) hLs
  have hq4 : (nI i + 4).toNatClampNeg = i + 4 := by rw [show nI i + 4 = nI (i + 4) from nI_add i 4]; exact nI_clamp (by omega)
  have hv5 : vp_in (nI i + 5) Ls := by rw [show nI i + 5 = nI (i + 5) from nI_add i 5]; exact vp_in_nI (by omega) hLs
  have hq5 : (nI i + 5).toNatClampNeg = i + 5 := by rw [show nI i + 5 = nI (i + 5) from nI_add i 5]; exact nI_clamp (by omega)
  refine zl_aload_n (pc := 1267) h dL_law_1267 rfl rfl ?_
  refine zl_aload_n (pc := 1268) h dL_law_1268 rfl rfl ?_
  refine zl_iload_n (pc := 1269) h dL_law_1269 rfl rfl ?_
  refine zl_iconst (pc := 1270) (v := 1) h dL_law_1270 (by decide) ?_
  refine zl_iadd (pc := 1271) h dL_law_1271 ?_
  refine zl_sld (pc := 1272) (q := i + 1) h (hv1) (hq1) dL_law_1272 ?_
  rw [ha1]
  refine zl_callV (pc := 1273) (a := 0) (n := 1) (As := [.int a1]) h gkc_0 rfl zl_w1285 zl_w1286 zl_w1287 ⟨zl_w1288, zl_w180, by decide +kernel, by decide +kernel, by decide +kernel⟩ ⟨by decide, by decide⟩ (cX11_letters_ok e1) rfl (Nat.le_of_ble_eq_true rfl) dL_law_1273 rfl ?_
  refine zl_pop (pc := 1276) h dL_law_1276 rfl ?_
  refine zl_aload_n (pc := 1277) h dL_law_1277 rfl rfl ?_
  refine zl_aload_n (pc := 1278) h dL_law_1278 rfl rfl ?_
  refine zl_iload_n (pc := 1279) h dL_law_1279 rfl rfl ?_
  refine zl_iconst (pc := 1280) (v := 1) h dL_law_1280 (by decide) ?_
  refine zl_iadd (pc := 1281) h dL_law_1281 ?_
  refine zl_sld (pc := 1282) (q := i + 1) h (hv1) (hq1) dL_law_1282 ?_
  rw [ha1]
  refine zl_callV (pc := 1283) (a := 267) (n := 1) (As := [.int a1]) h gkc_267 rfl zl_w1931 zl_w1932 zl_w1933 ⟨zl_w1934, zl_w196, by decide +kernel, by decide +kernel, by decide +kernel⟩ ⟨by decide, by decide⟩ (cX12_letters_ok e2) rfl (Nat.le_of_ble_eq_true rfl) dL_law_1283 rfl ?_
  refine zl_pop (pc := 1286) h dL_law_1286 rfl ?_
  refine zl_goto (pc := 1287) (tgt := 1534) h dL_law_1287 rfl ?_
  exact hk

set_option maxRecDepth 100000 in
set_option maxHeartbeats 4000000 in
theorem gl_case34 {l : Launch} {g : gG} {b Ls i : Nat} {xs : Nat → Int32} {K : gKt} (h : gLW l g b Ls xs K) (hi : i + 6 ≤ Ls) (hLs : Ls < 2 ^ 31) {a1 a2 a3 a4 a5 : Int32} (ha1 : xs (i + 1) = a1) (ha2 : xs (i + 2) = a2) (ha3 : xs (i + 3) = a3) (ha4 : xs (i + 4) = a4) (ha5 : xs (i + 5) = a5) {v v2 : Int32} {μ μ1 μ2 : gM} (e1 : fX11_stands a1 a2 a3 μ = some (v, μ1)) (e2 : fX12_stands a1 a2 a3 μ1 = some (v2, μ2)) (hk : K 1534 [some (.ref b), some (.ref (g.1 + 0)), some (.ref (g.1 + 267)), some (.int (nI i))] [] μ2) : K 1290 [some (.ref b), some (.ref (g.1 + 0)), some (.ref (g.1 + 267)), some (.int (nI i))] [] μ := by
  have hv1 : vp_in (nI i + 1) Ls := by rw [show nI i + 1 = nI (i + 1) from nI_add i 1]; exact vp_in_nI (by omega) hLs
  have hq1 : (nI i + 1).toNatClampNeg = i + 1 := by rw [show nI i + 1 = nI (i + 1) from nI_add i 1]; exact nI_clamp (by omega)
  have hv2 : vp_in (nI i + 2) Ls := by rw [show nI i + 2 = nI (i + 2) from nI_add i 2]; exact vp_in_nI (by omega) hLs
  have hq2 : (nI i + 2).toNatClampNeg = i + 2 := by rw [show nI i + 2 = nI (i + 2) from nI_add i 2]; exact nI_clamp (by omega)
  have hv3 : vp_in (nI i + 3) Ls := by rw [show nI i + 3 = nI (i + 3) from nI_add i 3]; exact vp_in_nI (by omega) hLs
  have hq3 : (nI i + 3).toNatClampNeg = i + 3 := by rw [show nI i + 3 = nI (i + 3) from nI_add i 3]; exact nI_clamp (by omega)
  have hv4 : vp_in (nI i + 4) Ls := by rw [show nI i + 4 = nI (i + 4) from nI_add i 4]; exact vp_in_nI (by omega) hLs
  have hq4 : (nI i + 4).toNatClampNeg = i + 4 := by rw [show nI i + 4 = nI (i + 4) from nI_add i 4]; exact nI_clamp (by omega)
  have hv5 : vp_in (nI i + 5) Ls := by rw [show nI i + 5 = nI (i + 5) from nI_add i 5]; exact vp_in_nI (by omega) hLs
  have hq5 : (nI i + 5).toNatClampNeg = i + 5 := by rw [show nI i + 5 = nI (i + 5) from nI_add i 5]; exact nI_clamp (by omega)
  refine zl_aload_n (pc := 1290) h dL_law_1290 rfl rfl ?_
  refine zl_aload_n (pc := 1291) h dL_law_1291 rfl rfl ?_
  refine zl_iload_n (pc := 1292) h dL_law_1292 rfl rfl ?_
  refine zl_iconst (pc := 1293) (v := 1) h dL_law_1293 (by decide) ?_
  refine zl_iadd (pc := 1294) h dL_law_1294 ?_
  refine zl_sld (pc := 1295) (q := i + 1) h (hv1) (hq1) dL_law_1295 ?_
  rw [ha1]
  refine zl_aload_n (pc := 1296) h dL_law_1296 rfl rfl ?_
  refine zl_iload_n (pc := 1297) h dL_law_1297 rfl rfl ?_
  refine zl_iconst (pc := 1298) (v := 2) h dL_law_1298 (by decide) ?_
  refine zl_iadd (pc := 1299) h dL_law_1299 ?_
  refine zl_sld (pc := 1300) (q := i + 2) h (hv2) (hq2) dL_law_1300 ?_
  rw [ha2]
  refine zl_aload_n (pc := 1301) h dL_law_1301 rfl rfl ?_
  refine zl_iload_n (pc := 1302) h dL_law_1302 rfl rfl ?_
  refine zl_iconst (pc := 1303) (v := 3) h dL_law_1303 (by decide) ?_
  refine zl_iadd (pc := 1304) h dL_law_1304 ?_
  refine zl_sld (pc := 1305) (q := i + 3) h (hv3) (hq3) dL_law_1305 ?_
  rw [ha3]
  refine zl_callV (pc := 1306) (a := 0) (n := 3) (As := [.int a1, .int a2, .int a3]) h gkc_0 rfl zl_w1293 zl_w1294 zl_w1295 ⟨zl_w1296, zl_w180, by decide +kernel, by decide +kernel, by decide +kernel⟩ ⟨by decide, by decide⟩ (cX11_stands_ok e1) rfl (Nat.le_of_ble_eq_true rfl) dL_law_1306 rfl ?_
  refine zl_pop (pc := 1309) h dL_law_1309 rfl ?_
  refine zl_aload_n (pc := 1310) h dL_law_1310 rfl rfl ?_
  refine zl_aload_n (pc := 1311) h dL_law_1311 rfl rfl ?_
  refine zl_iload_n (pc := 1312) h dL_law_1312 rfl rfl ?_
  refine zl_iconst (pc := 1313) (v := 1) h dL_law_1313 (by decide) ?_
  refine zl_iadd (pc := 1314) h dL_law_1314 ?_
  refine zl_sld (pc := 1315) (q := i + 1) h (hv1) (hq1) dL_law_1315 ?_
  rw [ha1]
  refine zl_aload_n (pc := 1316) h dL_law_1316 rfl rfl ?_
  refine zl_iload_n (pc := 1317) h dL_law_1317 rfl rfl ?_
  refine zl_iconst (pc := 1318) (v := 2) h dL_law_1318 (by decide) ?_
  refine zl_iadd (pc := 1319) h dL_law_1319 ?_
  refine zl_sld (pc := 1320) (q := i + 2) h (hv2) (hq2) dL_law_1320 ?_
  rw [ha2]
  refine zl_aload_n (pc := 1321) h dL_law_1321 rfl rfl ?_
  refine zl_iload_n (pc := 1322) h dL_law_1322 rfl rfl ?_
  refine zl_iconst (pc := 1323) (v := 3) h dL_law_1323 (by decide) ?_
  refine zl_iadd (pc := 1324) h dL_law_1324 ?_
  refine zl_sld (pc := 1325) (q := i + 3) h (hv3) (hq3) dL_law_1325 ?_
  rw [ha3]
  refine zl_callV (pc := 1326) (a := 267) (n := 3) (As := [.int a1, .int a2, .int a3]) h gkc_267 rfl zl_w1935 zl_w1936 zl_w1937 ⟨zl_w1938, zl_w196, by decide +kernel, by decide +kernel, by decide +kernel⟩ ⟨by decide, by decide⟩ (cX12_stands_ok e2) rfl (Nat.le_of_ble_eq_true rfl) dL_law_1326 rfl ?_
  refine zl_pop (pc := 1329) h dL_law_1329 rfl ?_
  refine zl_goto (pc := 1330) (tgt := 1534) h dL_law_1330 rfl ?_
  exact hk

set_option maxRecDepth 100000 in
set_option maxHeartbeats 4000000 in
theorem gl_case35 {l : Launch} {g : gG} {b Ls i : Nat} {xs : Nat → Int32} {K : gKt} (h : gLW l g b Ls xs K) (hi : i + 6 ≤ Ls) (hLs : Ls < 2 ^ 31) {a1 a2 a3 a4 a5 : Int32} (ha1 : xs (i + 1) = a1) (ha2 : xs (i + 2) = a2) (ha3 : xs (i + 3) = a3) (ha4 : xs (i + 4) = a4) (ha5 : xs (i + 5) = a5) {v v2 : Int32} {μ μ1 μ2 : gM} (e1 : fX11_returns a1 a2 μ = some (v, μ1)) (e2 : fX12_returns a1 a2 μ1 = some (v2, μ2)) (hk : K 1534 [some (.ref b), some (.ref (g.1 + 0)), some (.ref (g.1 + 267)), some (.int (nI i))] [] μ2) : K 1333 [some (.ref b), some (.ref (g.1 + 0)), some (.ref (g.1 + 267)), some (.int (nI i))] [] μ := by
  have hv1 : vp_in (nI i + 1) Ls := by rw [show nI i + 1 = nI (i + 1) from nI_add i 1]; exact vp_in_nI (by omega) hLs
  have hq1 : (nI i + 1).toNatClampNeg = i + 1 := by rw [show nI i + 1 = nI (i + 1) from nI_add i 1]; exact nI_clamp (by omega)
  have hv2 : vp_in (nI i + 2) Ls := by rw [show nI i + 2 = nI (i + 2) from nI_add i 2]; exact vp_in_nI (by omega) hLs
  have hq2 : (nI i + 2).toNatClampNeg = i + 2 := by rw [show nI i + 2 = nI (i + 2) from nI_add i 2]; exact nI_clamp (by omega)
  have hv3 : vp_in (nI i + 3) Ls := by rw [show nI i + 3 = nI (i + 3) from nI_add i 3]; exact vp_in_nI (by omega) hLs
  have hq3 : (nI i + 3).toNatClampNeg = i + 3 := by rw [show nI i + 3 = nI (i + 3) from nI_add i 3]; exact nI_clamp (by omega)
  have hv4 : vp_in (nI i + 4) Ls := by rw [show nI i + 4 = nI (i + 4) from nI_add i 4]; exact vp_in_nI (by omega) hLs
  have hq4 : (nI i + 4).toNatClampNeg = i + 4 := by rw [show nI i + 4 = nI (i + 4) from nI_add i 4]; exact nI_clamp (by omega)
  have hv5 : vp_in (nI i + 5) Ls := by rw [show nI i + 5 = nI (i + 5) from nI_add i 5]; exact vp_in_nI (by omega) hLs
  have hq5 : (nI i + 5).toNatClampNeg = i + 5 := by rw [show nI i + 5 = nI (i + 5) from nI_add i 5]; exact nI_clamp (by omega)
  refine zl_aload_n (pc := 1333) h dL_law_1333 rfl rfl ?_
  refine zl_aload_n (pc := 1334) h dL_law_1334 rfl rfl ?_
  refine zl_iload_n (pc := 1335) h dL_law_1335 rfl rfl ?_
  refine zl_iconst (pc := 1336) (v := 1) h dL_law_1336 (by decide) ?_
  refine zl_iadd (pc := 1337) h dL_law_1337 ?_
  refine zl_sld (pc := 1338) (q := i + 1) h (hv1) (hq1) dL_law_1338 ?_
  rw [ha1]
  refine zl_aload_n (pc := 1339) h dL_law_1339 rfl rfl ?_
  refine zl_iload_n (pc := 1340) h dL_law_1340 rfl rfl ?_
  refine zl_iconst (pc := 1341) (v := 2) h dL_law_1341 (by decide) ?_
  refine zl_iadd (pc := 1342) h dL_law_1342 ?_
  refine zl_sld (pc := 1343) (q := i + 2) h (hv2) (hq2) dL_law_1343 ?_
  rw [ha2]
  refine zl_callV (pc := 1344) (a := 0) (n := 2) (As := [.int a1, .int a2]) h gkc_0 rfl zl_w1301 zl_w1302 zl_w1303 ⟨zl_w1304, zl_w180, by decide +kernel, by decide +kernel, by decide +kernel⟩ ⟨by decide, by decide⟩ (cX11_returns_ok e1) rfl (Nat.le_of_ble_eq_true rfl) dL_law_1344 rfl ?_
  refine zl_pop (pc := 1347) h dL_law_1347 rfl ?_
  refine zl_aload_n (pc := 1348) h dL_law_1348 rfl rfl ?_
  refine zl_aload_n (pc := 1349) h dL_law_1349 rfl rfl ?_
  refine zl_iload_n (pc := 1350) h dL_law_1350 rfl rfl ?_
  refine zl_iconst (pc := 1351) (v := 1) h dL_law_1351 (by decide) ?_
  refine zl_iadd (pc := 1352) h dL_law_1352 ?_
  refine zl_sld (pc := 1353) (q := i + 1) h (hv1) (hq1) dL_law_1353 ?_
  rw [ha1]
  refine zl_aload_n (pc := 1354) h dL_law_1354 rfl rfl ?_
  refine zl_iload_n (pc := 1355) h dL_law_1355 rfl rfl ?_
  refine zl_iconst (pc := 1356) (v := 2) h dL_law_1356 (by decide) ?_
  refine zl_iadd (pc := 1357) h dL_law_1357 ?_
  refine zl_sld (pc := 1358) (q := i + 2) h (hv2) (hq2) dL_law_1358 ?_
  rw [ha2]
  refine zl_callV (pc := 1359) (a := 267) (n := 2) (As := [.int a1, .int a2]) h gkc_267 rfl zl_w1939 zl_w1940 zl_w1941 ⟨zl_w1942, zl_w196, by decide +kernel, by decide +kernel, by decide +kernel⟩ ⟨by decide, by decide⟩ (cX12_returns_ok e2) rfl (Nat.le_of_ble_eq_true rfl) dL_law_1359 rfl ?_
  refine zl_pop (pc := 1362) h dL_law_1362 rfl ?_
  refine zl_goto (pc := 1363) (tgt := 1534) h dL_law_1363 rfl ?_
  exact hk

set_option maxRecDepth 100000 in
set_option maxHeartbeats 4000000 in
theorem gl_case36 {l : Launch} {g : gG} {b Ls i : Nat} {xs : Nat → Int32} {K : gKt} (h : gLW l g b Ls xs K) (hi : i + 6 ≤ Ls) (hLs : Ls < 2 ^ 31) {a1 a2 a3 a4 a5 : Int32} (ha1 : xs (i + 1) = a1) (ha2 : xs (i + 2) = a2) (ha3 : xs (i + 3) = a3) (ha4 : xs (i + 4) = a4) (ha5 : xs (i + 5) = a5) {v v2 : Int32} {μ μ1 μ2 : gM} (e1 : fX11_under a1 a2 a3 μ = some (v, μ1)) (e2 : fX12_under a1 a2 a3 μ1 = some (v2, μ2)) (hk : K 1534 [some (.ref b), some (.ref (g.1 + 0)), some (.ref (g.1 + 267)), some (.int (nI i))] [] μ2) : K 1366 [some (.ref b), some (.ref (g.1 + 0)), some (.ref (g.1 + 267)), some (.int (nI i))] [] μ := by
  have hv1 : vp_in (nI i + 1) Ls := by rw [show nI i + 1 = nI (i + 1) from nI_add i 1]; exact vp_in_nI (by omega) hLs
  have hq1 : (nI i + 1).toNatClampNeg = i + 1 := by rw [show nI i + 1 = nI (i + 1) from nI_add i 1]; exact nI_clamp (by omega)
  have hv2 : vp_in (nI i + 2) Ls := by rw [show nI i + 2 = nI (i + 2) from nI_add i 2]; exact vp_in_nI (by omega) hLs
  have hq2 : (nI i + 2).toNatClampNeg = i + 2 := by rw [show nI i + 2 = nI (i + 2) from nI_add i 2]; exact nI_clamp (by omega)
  have hv3 : vp_in (nI i + 3) Ls := by rw [show nI i + 3 = nI (i + 3) from nI_add i 3]; exact vp_in_nI (by omega) hLs
  have hq3 : (nI i + 3).toNatClampNeg = i + 3 := by rw [show nI i + 3 = nI (i + 3) from nI_add i 3]; exact nI_clamp (by omega)
  have hv4 : vp_in (nI i + 4) Ls := by rw [show nI i + 4 = nI (i + 4) from nI_add i 4]; exact vp_in_nI (by omega) hLs
  have hq4 : (nI i + 4).toNatClampNeg = i + 4 := by rw [show nI i + 4 = nI (i + 4) from nI_add i 4]; exact nI_clamp (by omega)
  have hv5 : vp_in (nI i + 5) Ls := by rw [show nI i + 5 = nI (i + 5) from nI_add i 5]; exact vp_in_nI (by omega) hLs
  have hq5 : (nI i + 5).toNatClampNeg = i + 5 := by rw [show nI i + 5 = nI (i + 5) from nI_add i 5]; exact nI_clamp (by omega)
  refine zl_aload_n (pc := 1366) h dL_law_1366 rfl rfl ?_
  refine zl_aload_n (pc := 1367) h dL_law_1367 rfl rfl ?_
  refine zl_iload_n (pc := 1368) h dL_law_1368 rfl rfl ?_
  refine zl_iconst (pc := 1369) (v := 1) h dL_law_1369 (by decide) ?_
  refine zl_iadd (pc := 1370) h dL_law_1370 ?_
  refine zl_sld (pc := 1371) (q := i + 1) h (hv1) (hq1) dL_law_1371 ?_
  rw [ha1]
  refine zl_aload_n (pc := 1372) h dL_law_1372 rfl rfl ?_
  refine zl_iload_n (pc := 1373) h dL_law_1373 rfl rfl ?_
  refine zl_iconst (pc := 1374) (v := 2) h dL_law_1374 (by decide) ?_
  refine zl_iadd (pc := 1375) h dL_law_1375 ?_
  refine zl_sld (pc := 1376) (q := i + 2) h (hv2) (hq2) dL_law_1376 ?_
  rw [ha2]
  refine zl_aload_n (pc := 1377) h dL_law_1377 rfl rfl ?_
  refine zl_iload_n (pc := 1378) h dL_law_1378 rfl rfl ?_
  refine zl_iconst (pc := 1379) (v := 3) h dL_law_1379 (by decide) ?_
  refine zl_iadd (pc := 1380) h dL_law_1380 ?_
  refine zl_sld (pc := 1381) (q := i + 3) h (hv3) (hq3) dL_law_1381 ?_
  rw [ha3]
  refine zl_callV (pc := 1382) (a := 0) (n := 3) (As := [.int a1, .int a2, .int a3]) h gkc_0 rfl zl_w1310 zl_w1311 zl_w1312 ⟨zl_w1313, zl_w180, by decide +kernel, by decide +kernel, by decide +kernel⟩ ⟨by decide, by decide⟩ (cX11_under_ok e1) rfl (Nat.le_of_ble_eq_true rfl) dL_law_1382 rfl ?_
  refine zl_pop (pc := 1385) h dL_law_1385 rfl ?_
  refine zl_aload_n (pc := 1386) h dL_law_1386 rfl rfl ?_
  refine zl_aload_n (pc := 1387) h dL_law_1387 rfl rfl ?_
  refine zl_iload_n (pc := 1388) h dL_law_1388 rfl rfl ?_
  refine zl_iconst (pc := 1389) (v := 1) h dL_law_1389 (by decide) ?_
  refine zl_iadd (pc := 1390) h dL_law_1390 ?_
  refine zl_sld (pc := 1391) (q := i + 1) h (hv1) (hq1) dL_law_1391 ?_
  rw [ha1]
  refine zl_aload_n (pc := 1392) h dL_law_1392 rfl rfl ?_
  refine zl_iload_n (pc := 1393) h dL_law_1393 rfl rfl ?_
  refine zl_iconst (pc := 1394) (v := 2) h dL_law_1394 (by decide) ?_
  refine zl_iadd (pc := 1395) h dL_law_1395 ?_
  refine zl_sld (pc := 1396) (q := i + 2) h (hv2) (hq2) dL_law_1396 ?_
  rw [ha2]
  refine zl_aload_n (pc := 1397) h dL_law_1397 rfl rfl ?_
  refine zl_iload_n (pc := 1398) h dL_law_1398 rfl rfl ?_
  refine zl_iconst (pc := 1399) (v := 3) h dL_law_1399 (by decide) ?_
  refine zl_iadd (pc := 1400) h dL_law_1400 ?_
  refine zl_sld (pc := 1401) (q := i + 3) h (hv3) (hq3) dL_law_1401 ?_
  rw [ha3]
  refine zl_callV (pc := 1402) (a := 267) (n := 3) (As := [.int a1, .int a2, .int a3]) h gkc_267 rfl zl_w1943 zl_w1944 zl_w1945 ⟨zl_w1946, zl_w196, by decide +kernel, by decide +kernel, by decide +kernel⟩ ⟨by decide, by decide⟩ (cX12_under_ok e2) rfl (Nat.le_of_ble_eq_true rfl) dL_law_1402 rfl ?_
  refine zl_pop (pc := 1405) h dL_law_1405 rfl ?_
  refine zl_goto (pc := 1406) (tgt := 1534) h dL_law_1406 rfl ?_
  exact hk

set_option maxRecDepth 100000 in
set_option maxHeartbeats 4000000 in
theorem gl_case37 {l : Launch} {g : gG} {b Ls i : Nat} {xs : Nat → Int32} {K : gKt} (h : gLW l g b Ls xs K) (hi : i + 6 ≤ Ls) (hLs : Ls < 2 ^ 31) {a1 a2 a3 a4 a5 : Int32} (ha1 : xs (i + 1) = a1) (ha2 : xs (i + 2) = a2) (ha3 : xs (i + 3) = a3) (ha4 : xs (i + 4) = a4) (ha5 : xs (i + 5) = a5) {v v2 : Int32} {μ μ2 : gM} (e1 : fX11_rank a1 a2 μ = some v) (e2 : fX12_rank a1 a2 μ = some (v2, μ2)) (hk : K 1534 [some (.ref b), some (.ref (g.1 + 0)), some (.ref (g.1 + 267)), some (.int (nI i))] [] μ2) : K 1409 [some (.ref b), some (.ref (g.1 + 0)), some (.ref (g.1 + 267)), some (.int (nI i))] [] μ := by
  have hv1 : vp_in (nI i + 1) Ls := by rw [show nI i + 1 = nI (i + 1) from nI_add i 1]; exact vp_in_nI (by omega) hLs
  have hq1 : (nI i + 1).toNatClampNeg = i + 1 := by rw [show nI i + 1 = nI (i + 1) from nI_add i 1]; exact nI_clamp (by omega)
  have hv2 : vp_in (nI i + 2) Ls := by rw [show nI i + 2 = nI (i + 2) from nI_add i 2]; exact vp_in_nI (by omega) hLs
  have hq2 : (nI i + 2).toNatClampNeg = i + 2 := by rw [show nI i + 2 = nI (i + 2) from nI_add i 2]; exact nI_clamp (by omega)
  have hv3 : vp_in (nI i + 3) Ls := by rw [show nI i + 3 = nI (i + 3) from nI_add i 3]; exact vp_in_nI (by omega) hLs
  have hq3 : (nI i + 3).toNatClampNeg = i + 3 := by rw [show nI i + 3 = nI (i + 3) from nI_add i 3]; exact nI_clamp (by omega)
  have hv4 : vp_in (nI i + 4) Ls := by rw [show nI i + 4 = nI (i + 4) from nI_add i 4]; exact vp_in_nI (by omega) hLs
  have hq4 : (nI i + 4).toNatClampNeg = i + 4 := by rw [show nI i + 4 = nI (i + 4) from nI_add i 4]; exact nI_clamp (by omega)
  have hv5 : vp_in (nI i + 5) Ls := by rw [show nI i + 5 = nI (i + 5) from nI_add i 5]; exact vp_in_nI (by omega) hLs
  have hq5 : (nI i + 5).toNatClampNeg = i + 5 := by rw [show nI i + 5 = nI (i + 5) from nI_add i 5]; exact nI_clamp (by omega)
  refine zl_aload_n (pc := 1409) h dL_law_1409 rfl rfl ?_
  refine zl_aload_n (pc := 1410) h dL_law_1410 rfl rfl ?_
  refine zl_iload_n (pc := 1411) h dL_law_1411 rfl rfl ?_
  refine zl_iconst (pc := 1412) (v := 1) h dL_law_1412 (by decide) ?_
  refine zl_iadd (pc := 1413) h dL_law_1413 ?_
  refine zl_sld (pc := 1414) (q := i + 1) h (hv1) (hq1) dL_law_1414 ?_
  rw [ha1]
  refine zl_aload_n (pc := 1415) h dL_law_1415 rfl rfl ?_
  refine zl_iload_n (pc := 1416) h dL_law_1416 rfl rfl ?_
  refine zl_iconst (pc := 1417) (v := 2) h dL_law_1417 (by decide) ?_
  refine zl_iadd (pc := 1418) h dL_law_1418 ?_
  refine zl_sld (pc := 1419) (q := i + 2) h (hv2) (hq2) dL_law_1419 ?_
  rw [ha2]
  refine zl_callV (pc := 1420) (a := 0) (n := 2) (As := [.int a1, .int a2]) h gkc_0 rfl zl_w1318 zl_w1319 zl_w1320 ⟨zl_w1321, zl_w180, by decide +kernel, by decide +kernel, by decide +kernel⟩ ⟨by decide, by decide⟩ (cX11_rank_ok e1) rfl (Nat.le_of_ble_eq_true rfl) dL_law_1420 rfl ?_
  refine zl_pop (pc := 1423) h dL_law_1423 rfl ?_
  refine zl_aload_n (pc := 1424) h dL_law_1424 rfl rfl ?_
  refine zl_aload_n (pc := 1425) h dL_law_1425 rfl rfl ?_
  refine zl_iload_n (pc := 1426) h dL_law_1426 rfl rfl ?_
  refine zl_iconst (pc := 1427) (v := 1) h dL_law_1427 (by decide) ?_
  refine zl_iadd (pc := 1428) h dL_law_1428 ?_
  refine zl_sld (pc := 1429) (q := i + 1) h (hv1) (hq1) dL_law_1429 ?_
  rw [ha1]
  refine zl_aload_n (pc := 1430) h dL_law_1430 rfl rfl ?_
  refine zl_iload_n (pc := 1431) h dL_law_1431 rfl rfl ?_
  refine zl_iconst (pc := 1432) (v := 2) h dL_law_1432 (by decide) ?_
  refine zl_iadd (pc := 1433) h dL_law_1433 ?_
  refine zl_sld (pc := 1434) (q := i + 2) h (hv2) (hq2) dL_law_1434 ?_
  rw [ha2]
  refine zl_callV (pc := 1435) (a := 267) (n := 2) (As := [.int a1, .int a2]) h gkc_267 rfl zl_w1947 zl_w1948 zl_w1949 ⟨zl_w1950, zl_w196, by decide +kernel, by decide +kernel, by decide +kernel⟩ ⟨by decide, by decide⟩ (cX12_rank_ok e2) rfl (Nat.le_of_ble_eq_true rfl) dL_law_1435 rfl ?_
  refine zl_pop (pc := 1438) h dL_law_1438 rfl ?_
  refine zl_goto (pc := 1439) (tgt := 1534) h dL_law_1439 rfl ?_
  exact hk

set_option maxRecDepth 100000 in
set_option maxHeartbeats 4000000 in
theorem gl_case38 {l : Launch} {g : gG} {b Ls i : Nat} {xs : Nat → Int32} {K : gKt} (h : gLW l g b Ls xs K) (hi : i + 6 ≤ Ls) (hLs : Ls < 2 ^ 31) {a1 a2 a3 a4 a5 : Int32} (ha1 : xs (i + 1) = a1) (ha2 : xs (i + 2) = a2) (ha3 : xs (i + 3) = a3) (ha4 : xs (i + 4) = a4) (ha5 : xs (i + 5) = a5) {v v2 : Int32} {μ μ2 : gM} (e1 : fX11_log a1 a2 μ = some v) (e2 : fX12_log a1 a2 μ = some (v2, μ2)) (hk : K 1534 [some (.ref b), some (.ref (g.1 + 0)), some (.ref (g.1 + 267)), some (.int (nI i))] [] μ2) : K 1442 [some (.ref b), some (.ref (g.1 + 0)), some (.ref (g.1 + 267)), some (.int (nI i))] [] μ := by
  have hv1 : vp_in (nI i + 1) Ls := by rw [show nI i + 1 = nI (i + 1) from nI_add i 1]; exact vp_in_nI (by omega) hLs
  have hq1 : (nI i + 1).toNatClampNeg = i + 1 := by rw [show nI i + 1 = nI (i + 1) from nI_add i 1]; exact nI_clamp (by omega)
  have hv2 : vp_in (nI i + 2) Ls := by rw [show nI i + 2 = nI (i + 2) from nI_add i 2]; exact vp_in_nI (by omega) hLs
  have hq2 : (nI i + 2).toNatClampNeg = i + 2 := by rw [show nI i + 2 = nI (i + 2) from nI_add i 2]; exact nI_clamp (by omega)
  have hv3 : vp_in (nI i + 3) Ls := by rw [show nI i + 3 = nI (i + 3) from nI_add i 3]; exact vp_in_nI (by omega) hLs
  have hq3 : (nI i + 3).toNatClampNeg = i + 3 := by rw [show nI i + 3 = nI (i + 3) from nI_add i 3]; exact nI_clamp (by omega)
  have hv4 : vp_in (nI i + 4) Ls := by rw [show nI i + 4 = nI (i + 4) from nI_add i 4]; exact vp_in_nI (by omega) hLs
  have hq4 : (nI i + 4).toNatClampNeg = i + 4 := by rw [show nI i + 4 = nI (i + 4) from nI_add i 4]; exact nI_clamp (by omega)
  have hv5 : vp_in (nI i + 5) Ls := by rw [show nI i + 5 = nI (i + 5) from nI_add i 5]; exact vp_in_nI (by omega) hLs
  have hq5 : (nI i + 5).toNatClampNeg = i + 5 := by rw [show nI i + 5 = nI (i + 5) from nI_add i 5]; exact nI_clamp (by omega)
  refine zl_aload_n (pc := 1442) h dL_law_1442 rfl rfl ?_
  refine zl_aload_n (pc := 1443) h dL_law_1443 rfl rfl ?_
  refine zl_iload_n (pc := 1444) h dL_law_1444 rfl rfl ?_
  refine zl_iconst (pc := 1445) (v := 1) h dL_law_1445 (by decide) ?_
  refine zl_iadd (pc := 1446) h dL_law_1446 ?_
  refine zl_sld (pc := 1447) (q := i + 1) h (hv1) (hq1) dL_law_1447 ?_
  rw [ha1]
  refine zl_aload_n (pc := 1448) h dL_law_1448 rfl rfl ?_
  refine zl_iload_n (pc := 1449) h dL_law_1449 rfl rfl ?_
  refine zl_iconst (pc := 1450) (v := 2) h dL_law_1450 (by decide) ?_
  refine zl_iadd (pc := 1451) h dL_law_1451 ?_
  refine zl_sld (pc := 1452) (q := i + 2) h (hv2) (hq2) dL_law_1452 ?_
  rw [ha2]
  refine zl_callV (pc := 1453) (a := 0) (n := 2) (As := [.int a1, .int a2]) h gkc_0 rfl zl_w1324 zl_w1325 zl_w1326 ⟨zl_w1327, zl_w180, by decide +kernel, by decide +kernel, by decide +kernel⟩ ⟨by decide, by decide⟩ (cX11_log_ok e1) rfl (Nat.le_of_ble_eq_true rfl) dL_law_1453 rfl ?_
  refine zl_pop (pc := 1456) h dL_law_1456 rfl ?_
  refine zl_aload_n (pc := 1457) h dL_law_1457 rfl rfl ?_
  refine zl_aload_n (pc := 1458) h dL_law_1458 rfl rfl ?_
  refine zl_iload_n (pc := 1459) h dL_law_1459 rfl rfl ?_
  refine zl_iconst (pc := 1460) (v := 1) h dL_law_1460 (by decide) ?_
  refine zl_iadd (pc := 1461) h dL_law_1461 ?_
  refine zl_sld (pc := 1462) (q := i + 1) h (hv1) (hq1) dL_law_1462 ?_
  rw [ha1]
  refine zl_aload_n (pc := 1463) h dL_law_1463 rfl rfl ?_
  refine zl_iload_n (pc := 1464) h dL_law_1464 rfl rfl ?_
  refine zl_iconst (pc := 1465) (v := 2) h dL_law_1465 (by decide) ?_
  refine zl_iadd (pc := 1466) h dL_law_1466 ?_
  refine zl_sld (pc := 1467) (q := i + 2) h (hv2) (hq2) dL_law_1467 ?_
  rw [ha2]
  refine zl_callV (pc := 1468) (a := 267) (n := 2) (As := [.int a1, .int a2]) h gkc_267 rfl zl_w1951 zl_w1952 zl_w1953 ⟨zl_w1954, zl_w196, by decide +kernel, by decide +kernel, by decide +kernel⟩ ⟨by decide, by decide⟩ (cX12_log_ok e2) rfl (Nat.le_of_ble_eq_true rfl) dL_law_1468 rfl ?_
  refine zl_pop (pc := 1471) h dL_law_1471 rfl ?_
  refine zl_goto (pc := 1472) (tgt := 1534) h dL_law_1472 rfl ?_
  exact hk

set_option maxRecDepth 100000 in
set_option maxHeartbeats 4000000 in
theorem gl_case39 {l : Launch} {g : gG} {b Ls i : Nat} {xs : Nat → Int32} {K : gKt} (h : gLW l g b Ls xs K) (hi : i + 6 ≤ Ls) (hLs : Ls < 2 ^ 31) {a1 a2 a3 a4 a5 : Int32} (ha1 : xs (i + 1) = a1) (ha2 : xs (i + 2) = a2) (ha3 : xs (i + 3) = a3) (ha4 : xs (i + 4) = a4) (ha5 : xs (i + 5) = a5) {v v2 : Int32} {μ μ1 μ2 : gM} (e1 : fX11_undo μ = some (v, μ1)) (e2 : fX12_undo μ1 = some (v2, μ2)) (hk : K 1534 [some (.ref b), some (.ref (g.1 + 0)), some (.ref (g.1 + 267)), some (.int (nI i))] [] μ2) : K 1475 [some (.ref b), some (.ref (g.1 + 0)), some (.ref (g.1 + 267)), some (.int (nI i))] [] μ := by
  have hv1 : vp_in (nI i + 1) Ls := by rw [show nI i + 1 = nI (i + 1) from nI_add i 1]; exact vp_in_nI (by omega) hLs
  have hq1 : (nI i + 1).toNatClampNeg = i + 1 := by rw [show nI i + 1 = nI (i + 1) from nI_add i 1]; exact nI_clamp (by omega)
  have hv2 : vp_in (nI i + 2) Ls := by rw [show nI i + 2 = nI (i + 2) from nI_add i 2]; exact vp_in_nI (by omega) hLs
  have hq2 : (nI i + 2).toNatClampNeg = i + 2 := by rw [show nI i + 2 = nI (i + 2) from nI_add i 2]; exact nI_clamp (by omega)
  have hv3 : vp_in (nI i + 3) Ls := by rw [show nI i + 3 = nI (i + 3) from nI_add i 3]; exact vp_in_nI (by omega) hLs
  have hq3 : (nI i + 3).toNatClampNeg = i + 3 := by rw [show nI i + 3 = nI (i + 3) from nI_add i 3]; exact nI_clamp (by omega)
  have hv4 : vp_in (nI i + 4) Ls := by rw [show nI i + 4 = nI (i + 4) from nI_add i 4]; exact vp_in_nI (by omega) hLs
  have hq4 : (nI i + 4).toNatClampNeg = i + 4 := by rw [show nI i + 4 = nI (i + 4) from nI_add i 4]; exact nI_clamp (by omega)
  have hv5 : vp_in (nI i + 5) Ls := by rw [show nI i + 5 = nI (i + 5) from nI_add i 5]; exact vp_in_nI (by omega) hLs
  have hq5 : (nI i + 5).toNatClampNeg = i + 5 := by rw [show nI i + 5 = nI (i + 5) from nI_add i 5]; exact nI_clamp (by omega)
  refine zl_aload_n (pc := 1475) h dL_law_1475 rfl rfl ?_
  refine zl_callV (pc := 1476) (a := 0) (n := 0) (As := []) h gkc_0 rfl zl_w1332 zl_w1333 zl_w1334 ⟨zl_w1335, zl_w180, by decide +kernel, by decide +kernel, by decide +kernel⟩ ⟨by decide, by decide⟩ (cX11_undo_ok e1) rfl (Nat.le_of_ble_eq_true rfl) dL_law_1476 rfl ?_
  refine zl_pop (pc := 1479) h dL_law_1479 rfl ?_
  refine zl_aload_n (pc := 1480) h dL_law_1480 rfl rfl ?_
  refine zl_callV (pc := 1481) (a := 267) (n := 0) (As := []) h gkc_267 rfl zl_w1955 zl_w1956 zl_w1957 ⟨zl_w1958, zl_w196, by decide +kernel, by decide +kernel, by decide +kernel⟩ ⟨by decide, by decide⟩ (cX12_undo_ok e2) rfl (Nat.le_of_ble_eq_true rfl) dL_law_1481 rfl ?_
  refine zl_pop (pc := 1484) h dL_law_1484 rfl ?_
  refine zl_goto (pc := 1485) (tgt := 1534) h dL_law_1485 rfl ?_
  exact hk

set_option maxRecDepth 100000 in
set_option maxHeartbeats 4000000 in
theorem gl_case40 {l : Launch} {g : gG} {b Ls i : Nat} {xs : Nat → Int32} {K : gKt} (h : gLW l g b Ls xs K) (hi : i + 6 ≤ Ls) (hLs : Ls < 2 ^ 31) {a1 a2 a3 a4 a5 : Int32} (ha1 : xs (i + 1) = a1) (ha2 : xs (i + 2) = a2) (ha3 : xs (i + 3) = a3) (ha4 : xs (i + 4) = a4) (ha5 : xs (i + 5) = a5) {v v2 : Int32} {μ μ1 μ2 : gM} (e1 : fX11_keep a1 μ = some (v, μ1)) (e2 : fX12_keep a1 μ1 = some (v2, μ2)) (hk : K 1534 [some (.ref b), some (.ref (g.1 + 0)), some (.ref (g.1 + 267)), some (.int (nI i))] [] μ2) : K 1488 [some (.ref b), some (.ref (g.1 + 0)), some (.ref (g.1 + 267)), some (.int (nI i))] [] μ := by
  have hv1 : vp_in (nI i + 1) Ls := by rw [show nI i + 1 = nI (i + 1) from nI_add i 1]; exact vp_in_nI (by omega) hLs
  have hq1 : (nI i + 1).toNatClampNeg = i + 1 := by rw [show nI i + 1 = nI (i + 1) from nI_add i 1]; exact nI_clamp (by omega)
  have hv2 : vp_in (nI i + 2) Ls := by rw [show nI i + 2 = nI (i + 2) from nI_add i 2]; exact vp_in_nI (by omega) hLs
  have hq2 : (nI i + 2).toNatClampNeg = i + 2 := by rw [show nI i + 2 = nI (i + 2) from nI_add i 2]; exact nI_clamp (by omega)
  have hv3 : vp_in (nI i + 3) Ls := by rw [show nI i + 3 = nI (i + 3) from nI_add i 3]; exact vp_in_nI (by omega) hLs
  have hq3 : (nI i + 3).toNatClampNeg = i + 3 := by rw [show nI i + 3 = nI (i + 3) from nI_add i 3]; exact nI_clamp (by omega)
  have hv4 : vp_in (nI i + 4) Ls := by rw [show nI i + 4 = nI (i + 4) from nI_add i 4]; exact vp_in_nI (by omega) hLs
  have hq4 : (nI i + 4).toNatClampNeg = i + 4 := by rw [show nI i + 4 = nI (i + 4) from nI_add i 4]; exact nI_clamp (by omega)
  have hv5 : vp_in (nI i + 5) Ls := by rw [show nI i + 5 = nI (i + 5) from nI_add i 5]; exact vp_in_nI (by omega) hLs
  have hq5 : (nI i + 5).toNatClampNeg = i + 5 := by rw [show nI i + 5 = nI (i + 5) from nI_add i 5]; exact nI_clamp (by omega)
  refine zl_aload_n (pc := 1488) h dL_law_1488 rfl rfl ?_
  refine zl_aload_n (pc := 1489) h dL_law_1489 rfl rfl ?_
  refine zl_iload_n (pc := 1490) h dL_law_1490 rfl rfl ?_
  refine zl_iconst (pc := 1491) (v := 1) h dL_law_1491 (by decide) ?_
  refine zl_iadd (pc := 1492) h dL_law_1492 ?_
  refine zl_sld (pc := 1493) (q := i + 1) h (hv1) (hq1) dL_law_1493 ?_
  rw [ha1]
  refine zl_callV (pc := 1494) (a := 0) (n := 1) (As := [.int a1]) h gkc_0 rfl zl_w1340 zl_w1341 zl_w1342 ⟨zl_w1343, zl_w180, by decide +kernel, by decide +kernel, by decide +kernel⟩ ⟨by decide, by decide⟩ (cX11_keep_ok e1) rfl (Nat.le_of_ble_eq_true rfl) dL_law_1494 rfl ?_
  refine zl_pop (pc := 1497) h dL_law_1497 rfl ?_
  refine zl_aload_n (pc := 1498) h dL_law_1498 rfl rfl ?_
  refine zl_aload_n (pc := 1499) h dL_law_1499 rfl rfl ?_
  refine zl_iload_n (pc := 1500) h dL_law_1500 rfl rfl ?_
  refine zl_iconst (pc := 1501) (v := 1) h dL_law_1501 (by decide) ?_
  refine zl_iadd (pc := 1502) h dL_law_1502 ?_
  refine zl_sld (pc := 1503) (q := i + 1) h (hv1) (hq1) dL_law_1503 ?_
  rw [ha1]
  refine zl_callV (pc := 1504) (a := 267) (n := 1) (As := [.int a1]) h gkc_267 rfl zl_w1959 zl_w1960 zl_w1961 ⟨zl_w1962, zl_w196, by decide +kernel, by decide +kernel, by decide +kernel⟩ ⟨by decide, by decide⟩ (cX12_keep_ok e2) rfl (Nat.le_of_ble_eq_true rfl) dL_law_1504 rfl ?_
  refine zl_pop (pc := 1507) h dL_law_1507 rfl ?_
  refine zl_goto (pc := 1508) (tgt := 1534) h dL_law_1508 rfl ?_
  exact hk

set_option maxRecDepth 100000 in
set_option maxHeartbeats 4000000 in
theorem gl_case41 {l : Launch} {g : gG} {b Ls i : Nat} {xs : Nat → Int32} {K : gKt} (h : gLW l g b Ls xs K) (hi : i + 6 ≤ Ls) (hLs : Ls < 2 ^ 31) {a1 a2 a3 a4 a5 : Int32} (ha1 : xs (i + 1) = a1) (ha2 : xs (i + 2) = a2) (ha3 : xs (i + 3) = a3) (ha4 : xs (i + 4) = a4) (ha5 : xs (i + 5) = a5) {v v2 : Int32} {μ μ1 μ2 : gM} (e1 : fX11_back a1 μ = some (v, μ1)) (e2 : fX12_back a1 μ1 = some (v2, μ2)) (hk : K 1534 [some (.ref b), some (.ref (g.1 + 0)), some (.ref (g.1 + 267)), some (.int (nI i))] [] μ2) : K 1511 [some (.ref b), some (.ref (g.1 + 0)), some (.ref (g.1 + 267)), some (.int (nI i))] [] μ := by
  have hv1 : vp_in (nI i + 1) Ls := by rw [show nI i + 1 = nI (i + 1) from nI_add i 1]; exact vp_in_nI (by omega) hLs
  have hq1 : (nI i + 1).toNatClampNeg = i + 1 := by rw [show nI i + 1 = nI (i + 1) from nI_add i 1]; exact nI_clamp (by omega)
  have hv2 : vp_in (nI i + 2) Ls := by rw [show nI i + 2 = nI (i + 2) from nI_add i 2]; exact vp_in_nI (by omega) hLs
  have hq2 : (nI i + 2).toNatClampNeg = i + 2 := by rw [show nI i + 2 = nI (i + 2) from nI_add i 2]; exact nI_clamp (by omega)
  have hv3 : vp_in (nI i + 3) Ls := by rw [show nI i + 3 = nI (i + 3) from nI_add i 3]; exact vp_in_nI (by omega) hLs
  have hq3 : (nI i + 3).toNatClampNeg = i + 3 := by rw [show nI i + 3 = nI (i + 3) from nI_add i 3]; exact nI_clamp (by omega)
  have hv4 : vp_in (nI i + 4) Ls := by rw [show nI i + 4 = nI (i + 4) from nI_add i 4]; exact vp_in_nI (by omega) hLs
  have hq4 : (nI i + 4).toNatClampNeg = i + 4 := by rw [show nI i + 4 = nI (i + 4) from nI_add i 4]; exact nI_clamp (by omega)
  have hv5 : vp_in (nI i + 5) Ls := by rw [show nI i + 5 = nI (i + 5) from nI_add i 5]; exact vp_in_nI (by omega) hLs
  have hq5 : (nI i + 5).toNatClampNeg = i + 5 := by rw [show nI i + 5 = nI (i + 5) from nI_add i 5]; exact nI_clamp (by omega)
  refine zl_aload_n (pc := 1511) h dL_law_1511 rfl rfl ?_
  refine zl_aload_n (pc := 1512) h dL_law_1512 rfl rfl ?_
  refine zl_iload_n (pc := 1513) h dL_law_1513 rfl rfl ?_
  refine zl_iconst (pc := 1514) (v := 1) h dL_law_1514 (by decide) ?_
  refine zl_iadd (pc := 1515) h dL_law_1515 ?_
  refine zl_sld (pc := 1516) (q := i + 1) h (hv1) (hq1) dL_law_1516 ?_
  rw [ha1]
  refine zl_callV (pc := 1517) (a := 0) (n := 1) (As := [.int a1]) h gkc_0 rfl zl_w1348 zl_w1349 zl_w1350 ⟨zl_w1351, zl_w180, by decide +kernel, by decide +kernel, by decide +kernel⟩ ⟨by decide, by decide⟩ (cX11_back_ok e1) rfl (Nat.le_of_ble_eq_true rfl) dL_law_1517 rfl ?_
  refine zl_pop (pc := 1520) h dL_law_1520 rfl ?_
  refine zl_aload_n (pc := 1521) h dL_law_1521 rfl rfl ?_
  refine zl_aload_n (pc := 1522) h dL_law_1522 rfl rfl ?_
  refine zl_iload_n (pc := 1523) h dL_law_1523 rfl rfl ?_
  refine zl_iconst (pc := 1524) (v := 1) h dL_law_1524 (by decide) ?_
  refine zl_iadd (pc := 1525) h dL_law_1525 ?_
  refine zl_sld (pc := 1526) (q := i + 1) h (hv1) (hq1) dL_law_1526 ?_
  rw [ha1]
  refine zl_callV (pc := 1527) (a := 267) (n := 1) (As := [.int a1]) h gkc_267 rfl zl_w1963 zl_w1964 zl_w1965 ⟨zl_w1966, zl_w196, by decide +kernel, by decide +kernel, by decide +kernel⟩ ⟨by decide, by decide⟩ (cX12_back_ok e2) rfl (Nat.le_of_ble_eq_true rfl) dL_law_1527 rfl ?_
  refine zl_pop (pc := 1530) h dL_law_1530 rfl ?_
  refine zl_goto (pc := 1531) (tgt := 1534) h dL_law_1531 rfl ?_
  exact hk

