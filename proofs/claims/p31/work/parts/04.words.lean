theorem gu_of {ws : List Cond} (ps : List Nat) (hp : ws = ps.filterMap (fun i => lw_tbl[i]?)) (h : ws.all gwOk = true) : ∀ w ∈ ws, w ∈ gwL := by
  intro w hw
  have h1 := List.all_eq_true.mp h w hw
  rw [hp] at hw
  obtain ⟨i, -, hi⟩ := List.mem_filterMap.mp hw
  exact List.mem_filter.mpr ⟨List.mem_of_getElem? hi, h1⟩
theorem gw_tb {w : Cond} (h : w ∈ tables_1) (ho : gwOk w = true) : w ∈ gwL := List.mem_filter.mpr ⟨List.mem_append_right _ h, ho⟩
theorem gwt_1 {w : Cond} (i : Nat) (h : tables_1_1[i]? = some w) (ho : gwOk w = true) : w ∈ gwL := gw_tb (List.mem_append_left _ (List.mem_of_getElem? h)) ho
theorem gwt_2 {w : Cond} (i : Nat) (h : tables_1_2[i]? = some w) (ho : gwOk w = true) : w ∈ gwL := gw_tb (List.mem_append_right _ (List.mem_append_left _ (List.mem_of_getElem? h))) ho
theorem gwt_3 {w : Cond} (i : Nat) (h : tables_1_3[i]? = some w) (ho : gwOk w = true) : w ∈ gwL := gw_tb (List.mem_append_right _ (List.mem_append_right _ (List.mem_append_left _ (List.mem_of_getElem? h)))) ho
theorem gwt_4 {w : Cond} (i : Nat) (h : tables_1_4[i]? = some w) (ho : gwOk w = true) : w ∈ gwL := gw_tb (List.mem_append_right _ (List.mem_append_right _ (List.mem_append_right _ (List.mem_append_left _ (List.mem_of_getElem? h))))) ho
theorem gwt_5 {w : Cond} (i : Nat) (h : tables_1_5[i]? = some w) (ho : gwOk w = true) : w ∈ gwL := gw_tb (List.mem_append_right _ (List.mem_append_right _ (List.mem_append_right _ (List.mem_append_right _ (List.mem_append_left _ (List.mem_of_getElem? h)))))) ho
theorem gwt_6 {w : Cond} (i : Nat) (h : tables_1_6[i]? = some w) (ho : gwOk w = true) : w ∈ gwL := gw_tb (List.mem_append_right _ (List.mem_append_right _ (List.mem_append_right _ (List.mem_append_right _ (List.mem_append_right _ (List.mem_append_left _ (List.mem_of_getElem? h))))))) ho
theorem gwt_7 {w : Cond} (i : Nat) (h : tables_1_7[i]? = some w) (ho : gwOk w = true) : w ∈ gwL := gw_tb (List.mem_append_right _ (List.mem_append_right _ (List.mem_append_right _ (List.mem_append_right _ (List.mem_append_right _ (List.mem_append_right _ (List.mem_append_left _ (List.mem_of_getElem? h)))))))) ho
theorem gwt_8 {w : Cond} (i : Nat) (h : tables_1_8[i]? = some w) (ho : gwOk w = true) : w ∈ gwL := gw_tb (List.mem_append_right _ (List.mem_append_right _ (List.mem_append_right _ (List.mem_append_right _ (List.mem_append_right _ (List.mem_append_right _ (List.mem_append_right _ (List.mem_of_getElem? h)))))))) ho
theorem gwp_1 {q : MethodName × Nat} (i : Nat) (h : lw_privs_1[i]? = some q) (ho : gwOk (Cond.selects q.1.cls q.1 q.1) = true) : Cond.selects q.1.cls q.1 q.1 ∈ gwL := List.mem_filter.mpr ⟨List.mem_append_left _ (List.mem_map.mpr ⟨q, List.mem_append_left _ (List.mem_of_getElem? h), rfl⟩), ho⟩
theorem gwp_2 {q : MethodName × Nat} (i : Nat) (h : lw_privs_2[i]? = some q) (ho : gwOk (Cond.selects q.1.cls q.1 q.1) = true) : Cond.selects q.1.cls q.1 q.1 ∈ gwL := List.mem_filter.mpr ⟨List.mem_append_left _ (List.mem_map.mpr ⟨q, List.mem_append_right _ (List.mem_append_left _ (List.mem_of_getElem? h)), rfl⟩), ho⟩
theorem gwp_3 {q : MethodName × Nat} (i : Nat) (h : lw_privs_3[i]? = some q) (ho : gwOk (Cond.selects q.1.cls q.1 q.1) = true) : Cond.selects q.1.cls q.1 q.1 ∈ gwL := List.mem_filter.mpr ⟨List.mem_append_left _ (List.mem_map.mpr ⟨q, List.mem_append_right _ (List.mem_append_right _ (List.mem_append_left _ (List.mem_of_getElem? h))), rfl⟩), ho⟩
theorem gwp_4 {q : MethodName × Nat} (i : Nat) (h : lw_privs_4[i]? = some q) (ho : gwOk (Cond.selects q.1.cls q.1 q.1) = true) : Cond.selects q.1.cls q.1 q.1 ∈ gwL := List.mem_filter.mpr ⟨List.mem_append_left _ (List.mem_map.mpr ⟨q, List.mem_append_right _ (List.mem_append_right _ (List.mem_append_right _ (List.mem_append_left _ (List.mem_of_getElem? h)))), rfl⟩), ho⟩
theorem gwp_5 {q : MethodName × Nat} (i : Nat) (h : lw_privs_5[i]? = some q) (ho : gwOk (Cond.selects q.1.cls q.1 q.1) = true) : Cond.selects q.1.cls q.1 q.1 ∈ gwL := List.mem_filter.mpr ⟨List.mem_append_left _ (List.mem_map.mpr ⟨q, List.mem_append_right _ (List.mem_append_right _ (List.mem_append_right _ (List.mem_append_right _ (List.mem_append_left _ (List.mem_of_getElem? h))))), rfl⟩), ho⟩
theorem gwp_6 {q : MethodName × Nat} (i : Nat) (h : lw_privs_6[i]? = some q) (ho : gwOk (Cond.selects q.1.cls q.1 q.1) = true) : Cond.selects q.1.cls q.1 q.1 ∈ gwL := List.mem_filter.mpr ⟨List.mem_append_left _ (List.mem_map.mpr ⟨q, List.mem_append_right _ (List.mem_append_right _ (List.mem_append_right _ (List.mem_append_right _ (List.mem_append_right _ (List.mem_append_left _ (List.mem_of_getElem? h)))))), rfl⟩), ho⟩
theorem gwp_7 {q : MethodName × Nat} (i : Nat) (h : lw_privs_7[i]? = some q) (ho : gwOk (Cond.selects q.1.cls q.1 q.1) = true) : Cond.selects q.1.cls q.1 q.1 ∈ gwL := List.mem_filter.mpr ⟨List.mem_append_left _ (List.mem_map.mpr ⟨q, List.mem_append_right _ (List.mem_append_right _ (List.mem_append_right _ (List.mem_append_right _ (List.mem_append_right _ (List.mem_append_right _ (List.mem_append_left _ (List.mem_of_getElem? h))))))), rfl⟩), ho⟩
theorem gwp_8 {q : MethodName × Nat} (i : Nat) (h : lw_privs_8[i]? = some q) (ho : gwOk (Cond.selects q.1.cls q.1 q.1) = true) : Cond.selects q.1.cls q.1 q.1 ∈ gwL := List.mem_filter.mpr ⟨List.mem_append_left _ (List.mem_map.mpr ⟨q, List.mem_append_right _ (List.mem_append_right _ (List.mem_append_right _ (List.mem_append_right _ (List.mem_append_right _ (List.mem_append_right _ (List.mem_append_right _ (List.mem_append_left _ (List.mem_of_getElem? h)))))))), rfl⟩), ho⟩
theorem gwp_9 {q : MethodName × Nat} (i : Nat) (h : lw_privs_9[i]? = some q) (ho : gwOk (Cond.selects q.1.cls q.1 q.1) = true) : Cond.selects q.1.cls q.1 q.1 ∈ gwL := List.mem_filter.mpr ⟨List.mem_append_left _ (List.mem_map.mpr ⟨q, List.mem_append_right _ (List.mem_append_right _ (List.mem_append_right _ (List.mem_append_right _ (List.mem_append_right _ (List.mem_append_right _ (List.mem_append_right _ (List.mem_append_right _ (List.mem_append_left _ (List.mem_of_getElem? h))))))))), rfl⟩), ho⟩
theorem gwp_10 {q : MethodName × Nat} (i : Nat) (h : lw_privs_10[i]? = some q) (ho : gwOk (Cond.selects q.1.cls q.1 q.1) = true) : Cond.selects q.1.cls q.1 q.1 ∈ gwL := List.mem_filter.mpr ⟨List.mem_append_left _ (List.mem_map.mpr ⟨q, List.mem_append_right _ (List.mem_append_right _ (List.mem_append_right _ (List.mem_append_right _ (List.mem_append_right _ (List.mem_append_right _ (List.mem_append_right _ (List.mem_append_right _ (List.mem_append_right _ (List.mem_append_left _ (List.mem_of_getElem? h)))))))))), rfl⟩), ho⟩
theorem gwp_11 {q : MethodName × Nat} (i : Nat) (h : lw_privs_11[i]? = some q) (ho : gwOk (Cond.selects q.1.cls q.1 q.1) = true) : Cond.selects q.1.cls q.1 q.1 ∈ gwL := List.mem_filter.mpr ⟨List.mem_append_left _ (List.mem_map.mpr ⟨q, List.mem_append_right _ (List.mem_append_right _ (List.mem_append_right _ (List.mem_append_right _ (List.mem_append_right _ (List.mem_append_right _ (List.mem_append_right _ (List.mem_append_right _ (List.mem_append_right _ (List.mem_append_right _ (List.mem_append_left _ (List.mem_of_getElem? h))))))))))), rfl⟩), ho⟩
theorem gwp_12 {q : MethodName × Nat} (i : Nat) (h : lw_privs_12[i]? = some q) (ho : gwOk (Cond.selects q.1.cls q.1 q.1) = true) : Cond.selects q.1.cls q.1 q.1 ∈ gwL := List.mem_filter.mpr ⟨List.mem_append_left _ (List.mem_map.mpr ⟨q, List.mem_append_right _ (List.mem_append_right _ (List.mem_append_right _ (List.mem_append_right _ (List.mem_append_right _ (List.mem_append_right _ (List.mem_append_right _ (List.mem_append_right _ (List.mem_append_right _ (List.mem_append_right _ (List.mem_append_right _ (List.mem_of_getElem? h))))))))))), rfl⟩), ho⟩
theorem zu_X0 : ∀ w ∈ u_ws RX0 TX0 3, w ∈ gwL := gu_of [453, 455, 457] (by decide +kernel) (by decide +kernel)
theorem zu_X1 : ∀ w ∈ u_ws RX1 TX1 14, w ∈ gwL := gu_of [353, 355, 357, 359, 361, 363, 365, 367, 369, 371, 373, 375, 377, 379] (by decide +kernel) (by decide +kernel)
theorem zu_X2 : ∀ w ∈ u_ws RX2 TX2 2, w ∈ gwL := gu_of [393, 395] (by decide +kernel) (by decide +kernel)
theorem zu_X3 : ∀ w ∈ u_ws RX3 TX3 3, w ∈ gwL := gu_of [629, 631, 633] (by decide +kernel) (by decide +kernel)
theorem zu_X4 : ∀ w ∈ u_ws RX4 TX4 5, w ∈ gwL := gu_of [605, 607, 609, 611, 613] (by decide +kernel) (by decide +kernel)
theorem zu_X5 : ∀ w ∈ u_ws RX5 TX5 2, w ∈ gwL := gu_of [418, 420] (by decide +kernel) (by decide +kernel)
theorem zu_X6 : ∀ w ∈ u_ws RX6 TX6 3, w ∈ gwL := gu_of [427, 429, 431] (by decide +kernel) (by decide +kernel)
theorem zu_X7 : ∀ w ∈ u_ws RX7 TX7 9, w ∈ gwL := gu_of [278, 280, 282, 284, 286, 288, 290, 292, 294] (by decide +kernel) (by decide +kernel)
theorem zu_X8 : ∀ w ∈ u_ws RX8 TX8 4, w ∈ gwL := gu_of [647, 649, 651, 653] (by decide +kernel) (by decide +kernel)
theorem zu_X9 : ∀ w ∈ u_ws RX9 TX9 20, w ∈ gwL := gu_of [526, 528, 530, 532, 534, 536, 538, 540, 542, 544, 546, 548, 550, 552, 554, 556, 558, 560, 562, 564] (by decide +kernel) (by decide +kernel)
theorem zu_X10 : ∀ w ∈ u_ws RX10 TX10 5, w ∈ gwL := gu_of [579, 581, 583, 585, 587] (by decide +kernel) (by decide +kernel)
theorem zu_X11 : ∀ w ∈ u_ws RX11 TX11 9, w ∈ gwL := gu_of [665, 667, 669, 671, 673, 675, 677, 679, 681] (by decide +kernel) (by decide +kernel)
theorem zu_X12 : ∀ w ∈ u_ws RX12 TX12 27, w ∈ gwL := gu_of [1389, 1391, 1393, 1395, 1397, 1399, 1401, 1403, 1405, 1407, 1409, 1411, 1413, 1415, 1417, 1419, 1421, 1423, 1425, 1427, 1429, 1431, 1433, 1435, 1437, 1439, 1441] (by decide +kernel) (by decide +kernel)
theorem zw_448 : (Cond.fieldLink RX0 15 RX0 "count" "I") ∈ gwL := gwt_2 29 (by decide +kernel) rfl
theorem zw_451 : (Cond.fieldLink RX0 19 RX0 "newest" "I") ∈ gwL := gwt_2 32 (by decide +kernel) rfl
theorem zw_452 : (Cond.fieldLink RX0 11 RX0 "rows" "[I") ∈ gwL := gwt_2 33 (by decide +kernel) rfl
theorem zw_940 : (Cond.methodLink RX0 22 arraycopyName) ∈ gwL := gwt_4 41 (by decide +kernel) rfl
theorem zw_825 : (Cond.native arraycopyName) ∈ gwL := gwt_3 166 (by decide +kernel) rfl
theorem zw_824 : (Cond.static arraycopyName) ∈ gwL := gwt_3 165 (by decide +kernel) rfl
theorem zw_197 : (Cond.initialized RJ10) ∈ gwL := gwt_1 18 (by decide +kernel) rfl
theorem zw_341 : (Cond.fieldLink RX1 48 RX1 "tracks" "I") ∈ gwL := gwt_1 162 (by decide +kernel) rfl
theorem zw_329 : (Cond.fieldLink RX1 30 RX1 "members" "[I") ∈ gwL := gwt_1 150 (by decide +kernel) rfl
theorem zw_306 : (Cond.fieldLink RX1 9 RX1 "counts" "[I") ∈ gwL := gwt_1 127 (by decide +kernel) rfl
theorem zw_823 : (Cond.methodLink RX1 52 arraycopyName) ∈ gwL := gwt_3 164 (by decide +kernel) rfl
theorem zw_310 : (Cond.fieldLink RX1 15 RX1 "names" "[I") ∈ gwL := gwt_1 131 (by decide +kernel) rfl
theorem zw_313 : (Cond.fieldLink RX1 18 RX1 "every" "[I") ∈ gwL := gwt_1 134 (by decide +kernel) rfl
theorem zw_317 : (Cond.fieldLink RX1 21 RX1 "delay" "[I") ∈ gwL := gwt_1 138 (by decide +kernel) rfl
theorem zw_321 : (Cond.fieldLink RX1 24 RX1 "keeps" "[I") ∈ gwL := gwt_1 142 (by decide +kernel) rfl
theorem zw_325 : (Cond.fieldLink RX1 27 RX1 "slots" "[I") ∈ gwL := gwt_1 146 (by decide +kernel) rfl
theorem zw_334 : (Cond.fieldLink RX1 33 RX1 "words" "[I") ∈ gwL := gwt_1 155 (by decide +kernel) rfl
theorem zw_337 : (Cond.fieldLink RX1 36 RX1 "shares" "[I") ∈ gwL := gwt_1 158 (by decide +kernel) rfl
theorem zw_344 : (Cond.fieldLink RX1 39 RX1 "trackMembe\x72" "[I") ∈ gwL := gwt_1 165 (by decide +kernel) rfl
theorem zw_347 : (Cond.fieldLink RX1 42 RX1 "trackLink" "[I") ∈ gwL := gwt_1 168 (by decide +kernel) rfl
theorem zw_350 : (Cond.fieldLink RX1 45 RX1 "trackLess" "[I") ∈ gwL := gwt_1 171 (by decide +kernel) rfl
theorem zw_796 : (Cond.methodLink RX1 58 yX1_isGroup) ∈ gwL := gwt_3 137 (by decide +kernel) rfl
theorem zw_798 : (Cond.instanceMethod yX1_isGroup) ∈ gwL := gwt_3 139 (by decide +kernel) rfl
theorem zw_23 : (Cond.selects RX1 yX1_isGroup yX1_isGroup) ∈ gwL := gwp_2 (q := (yX1_isGroup, 14)) 7 (by decide +kernel) rfl
theorem zw_799 : (.code yX1_isGroup cX1_isGroup 2 (some .boolean) : Cond) ∈ gwL := gwt_3 140 (by decide +kernel) rfl
theorem zw_186 : (Cond.initialized RX1) ∈ gwL := gwt_1 7 (by decide +kernel) rfl
theorem zw_966 : (Cond.constant RJ6 265 (1431655765)) ∈ gwL := gwt_4 67 (by decide +kernel) rfl
theorem zw_967 : (Cond.constant RJ6 266 (858993459)) ∈ gwL := gwt_4 68 (by decide +kernel) rfl
theorem zw_968 : (Cond.constant RJ6 267 (252645135)) ∈ gwL := gwt_4 69 (by decide +kernel) rfl
theorem zw_963 : (Cond.methodLink RX1 62 yJ6_bitCount_0f7a4) ∈ gwL := gwt_4 64 (by decide +kernel) rfl
theorem zw_964 : (Cond.static yJ6_bitCount_0f7a4) ∈ gwL := gwt_4 65 (by decide +kernel) rfl
theorem zw_965 : (.code yJ6_bitCount_0f7a4 cJ6_bitCount_0f7a4 1 (some .int) : Cond) ∈ gwL := gwt_4 66 (by decide +kernel) rfl
theorem zw_199 : (Cond.initialized RJ6) ∈ gwL := gwt_1 20 (by decide +kernel) rfl
theorem zw_765 : (Cond.methodLink RX1 68 yX1_find) ∈ gwL := gwt_3 106 (by decide +kernel) rfl
theorem zw_767 : (Cond.instanceMethod yX1_find) ∈ gwL := gwt_3 108 (by decide +kernel) rfl
theorem zw_16 : (Cond.selects RX1 yX1_find yX1_find) ∈ gwL := gwp_2 (q := (yX1_find, 14)) 0 (by decide +kernel) rfl
theorem zw_768 : (.code yX1_find cX1_find 4 (some .int) : Cond) ∈ gwL := gwt_3 109 (by decide +kernel) rfl
theorem zw_272 : (Cond.fieldLink RX7 57 RX7 "value" "I") ∈ gwL := gwt_1 93 (by decide +kernel) rfl
theorem zw_267 : (Cond.fieldLink RX7 36 RX7 "at" "I") ∈ gwL := gwt_1 88 (by decide +kernel) rfl
theorem zw_266 : (Cond.fieldLink RX7 34 RX7 "length" "I") ∈ gwL := gwt_1 87 (by decide +kernel) rfl
theorem zw_271 : (Cond.fieldLink RX7 48 RX7 "start" "I") ∈ gwL := gwt_1 92 (by decide +kernel) rfl
theorem zw_268 : (Cond.fieldLink RX7 39 RX7 "kind" "I") ∈ gwL := gwt_1 89 (by decide +kernel) rfl
theorem zw_263 : (Cond.fieldLink RX7 9 RX7 "bytes" "[I") ∈ gwL := gwt_1 84 (by decide +kernel) rfl
theorem zw_720 : (Cond.methodLink RX7 54 yX7_readNumber) ∈ gwL := gwt_3 61 (by decide +kernel) rfl
theorem zw_722 : (Cond.instanceMethod yX7_readNumber) ∈ gwL := gwt_3 63 (by decide +kernel) rfl
theorem zw_6 : (Cond.selects RX7 yX7_readNumber yX7_readNumber) ∈ gwL := gwp_1 (q := (yX7_readNumber, 9)) 6 (by decide +kernel) rfl
theorem zw_723 : (.code yX7_readNumber cX7_readNumber 1 none : Cond) ∈ gwL := gwt_3 64 (by decide +kernel) rfl
theorem zw_181 : (Cond.initialized RX7) ∈ gwL := gwt_1 2 (by decide +kernel) rfl
theorem zw_716 : (Cond.methodLink RX7 51 yX7_readWord) ∈ gwL := gwt_3 57 (by decide +kernel) rfl
theorem zw_718 : (Cond.instanceMethod yX7_readWord) ∈ gwL := gwt_3 59 (by decide +kernel) rfl
theorem zw_5 : (Cond.selects RX7 yX7_readWord yX7_readWord) ∈ gwL := gwp_1 (q := (yX7_readWord, 9)) 5 (by decide +kernel) rfl
theorem zw_719 : (.code yX7_readWord cX7_readWord 1 none : Cond) ∈ gwL := gwt_3 60 (by decide +kernel) rfl
theorem zw_274 : (Cond.fieldLink RX7 42 RX7 "fault" "I") ∈ gwL := gwt_1 95 (by decide +kernel) rfl
theorem zw_276 : (Cond.fieldLink RX7 18 RX7 "place" "I") ∈ gwL := gwt_1 97 (by decide +kernel) rfl
theorem zw_712 : (Cond.methodLink RX7 45 yX7_advance) ∈ gwL := gwt_3 53 (by decide +kernel) rfl
theorem zw_714 : (Cond.instanceMethod yX7_advance) ∈ gwL := gwt_3 55 (by decide +kernel) rfl
theorem zw_4 : (Cond.selects RX7 yX7_advance yX7_advance) ∈ gwL := gwp_1 (q := (yX7_advance, 9)) 4 (by decide +kernel) rfl
theorem zw_715 : (.code yX7_advance cX7_advance 3 none : Cond) ∈ gwL := gwt_3 56 (by decide +kernel) rfl
theorem zw_264 : (Cond.fieldLink RX7 15 RX7 "own" "[I") ∈ gwL := gwt_1 85 (by decide +kernel) rfl
theorem zw_391 : (Cond.fieldLink RX2 12 RX2 "draft" "LGateGroup$Net;") ∈ gwL := gwt_1 212 (by decide +kernel) rfl
theorem zw_308 : (Cond.fieldLinkNest RX2 74 RX1 "counts" "[I" RX11) ∈ gwL := gwt_1 129 (by decide +kernel) rfl
theorem zw_744 : (Cond.methodLinkNest RX2 78 yX1_room RX11) ∈ gwL := gwt_3 85 (by decide +kernel) rfl
theorem zw_745 : (Cond.static yX1_room) ∈ gwL := gwt_3 86 (by decide +kernel) rfl
theorem zw_746 : (.code yX1_room cX1_room 1 (some .int) : Cond) ∈ gwL := gwt_3 87 (by decide +kernel) rfl
theorem zw_342 : (Cond.fieldLinkNest RX2 71 RX1 "tracks" "I" RX11) ∈ gwL := gwt_1 163 (by decide +kernel) rfl
theorem zw_760 : (Cond.methodLink RX7 60 yX7_ownWord) ∈ gwL := gwt_3 101 (by decide +kernel) rfl
theorem zw_734 : (Cond.instanceMethod yX7_ownWord) ∈ gwL := gwt_3 75 (by decide +kernel) rfl
theorem zw_9 : (Cond.selects RX7 yX7_ownWord yX7_ownWord) ∈ gwL := gwp_1 (q := (yX7_ownWord, 9)) 9 (by decide +kernel) rfl
theorem zw_735 : (.code yX7_ownWord cX7_ownWord 2 (some .int) : Cond) ∈ gwL := gwt_3 76 (by decide +kernel) rfl
theorem zw_390 : (Cond.fieldLink RX2 18 RX2 "reade\x72" "LGateGroup$Reader;") ∈ gwL := gwt_1 211 (by decide +kernel) rfl
theorem zw_756 : (Cond.methodLinkNest RX2 82 yX7_isName RX11) ∈ gwL := gwt_3 97 (by decide +kernel) rfl
theorem zw_758 : (Cond.instanceMethod yX7_isName) ∈ gwL := gwt_3 99 (by decide +kernel) rfl
theorem zw_14 : (Cond.selects RX7 yX7_isName yX7_isName) ∈ gwL := gwp_1 (q := (yX7_isName, 9)) 14 (by decide +kernel) rfl
theorem zw_759 : (.code yX7_isName cX7_isName 1 (some .boolean) : Cond) ∈ gwL := gwt_3 100 (by decide +kernel) rfl
theorem zw_273 : (Cond.fieldLinkNest RX2 85 RX7 "value" "I" RX11) ∈ gwL := gwt_1 94 (by decide +kernel) rfl
theorem zw_761 : (Cond.methodLinkNest RX2 88 yX1_isTold RX11) ∈ gwL := gwt_3 102 (by decide +kernel) rfl
theorem zw_763 : (Cond.instanceMethod yX1_isTold) ∈ gwL := gwt_3 104 (by decide +kernel) rfl
theorem zw_15 : (Cond.selects RX1 yX1_isTold yX1_isTold) ∈ gwL := gwp_1 (q := (yX1_isTold, 14)) 15 (by decide +kernel) rfl
theorem zw_764 : (.code yX1_isTold cX1_isTold 2 (some .boolean) : Cond) ∈ gwL := gwt_3 105 (by decide +kernel) rfl
theorem zw_311 : (Cond.fieldLinkNest RX2 91 RX1 "names" "[I" RX11) ∈ gwL := gwt_1 132 (by decide +kernel) rfl
theorem zw_747 : (Cond.methodLinkNest RX2 53 yX7_advance RX11) ∈ gwL := gwt_3 88 (by decide +kernel) rfl
theorem zw_269 : (Cond.fieldLinkNest RX2 38 RX7 "start" "I" RX11) ∈ gwL := gwt_1 90 (by decide +kernel) rfl
theorem zw_736 : (Cond.methodLinkNest RX2 46 yX7_refuse RX11) ∈ gwL := gwt_3 77 (by decide +kernel) rfl
theorem zw_738 : (Cond.instanceMethod yX7_refuse) ∈ gwL := gwt_3 79 (by decide +kernel) rfl
theorem zw_10 : (Cond.selects RX7 yX7_refuse yX7_refuse) ∈ gwL := gwp_1 (q := (yX7_refuse, 9)) 10 (by decide +kernel) rfl
theorem zw_739 : (.code yX7_refuse cX7_refuse 3 (some .boolean) : Cond) ∈ gwL := gwt_3 80 (by decide +kernel) rfl
theorem zw_773 : (Cond.methodLink RX7 63 yX7_refuse) ∈ gwL := gwt_3 114 (by decide +kernel) rfl
theorem zw_752 : (Cond.methodLink RX2 65 yX2_readName) ∈ gwL := gwt_3 93 (by decide +kernel) rfl
theorem zw_754 : (Cond.instanceMethod yX2_readName) ∈ gwL := gwt_3 95 (by decide +kernel) rfl
theorem zw_13 : (Cond.selects RX2 yX2_readName yX2_readName) ∈ gwL := gwp_1 (q := (yX2_readName, 2)) 13 (by decide +kernel) rfl
theorem zw_755 : (.code yX2_readName cX2_readName 3 (some .boolean) : Cond) ∈ gwL := gwt_3 96 (by decide +kernel) rfl
theorem zw_187 : (Cond.initialized RX2) ∈ gwL := gwt_1 8 (by decide +kernel) rfl
theorem zw_769 : (Cond.methodLinkNest RX2 94 yX7_pass RX11) ∈ gwL := gwt_3 110 (by decide +kernel) rfl
theorem zw_771 : (Cond.instanceMethod yX7_pass) ∈ gwL := gwt_3 112 (by decide +kernel) rfl
theorem zw_17 : (Cond.selects RX7 yX7_pass yX7_pass) ∈ gwL := gwp_2 (q := (yX7_pass, 9)) 1 (by decide +kernel) rfl
theorem zw_772 : (.code yX7_pass cX7_pass 2 (some .boolean) : Cond) ∈ gwL := gwt_3 113 (by decide +kernel) rfl
theorem zw_774 : (Cond.methodLinkNest RX2 97 yX7_number RX11) ∈ gwL := gwt_3 115 (by decide +kernel) rfl
theorem zw_776 : (Cond.instanceMethod yX7_number) ∈ gwL := gwt_3 117 (by decide +kernel) rfl
theorem zw_18 : (Cond.selects RX7 yX7_number yX7_number) ∈ gwL := gwp_2 (q := (yX7_number, 9)) 2 (by decide +kernel) rfl
theorem zw_777 : (.code yX7_number cX7_number 4 (some .int) : Cond) ∈ gwL := gwt_3 118 (by decide +kernel) rfl
theorem zw_778 : (Cond.methodLinkNest RX2 101 yX7_passIfThere RX11) ∈ gwL := gwt_3 119 (by decide +kernel) rfl
theorem zw_780 : (Cond.instanceMethod yX7_passIfThere) ∈ gwL := gwt_3 121 (by decide +kernel) rfl
theorem zw_19 : (Cond.selects RX7 yX7_passIfThere yX7_passIfThere) ∈ gwL := gwp_2 (q := (yX7_passIfThere, 9)) 3 (by decide +kernel) rfl
theorem zw_781 : (.code yX7_passIfThere cX7_passIfThere 2 (some .boolean) : Cond) ∈ gwL := gwt_3 122 (by decide +kernel) rfl
theorem zw_315 : (Cond.fieldLinkNest RX2 104 RX1 "every" "[I" RX11) ∈ gwL := gwt_1 136 (by decide +kernel) rfl
theorem zw_318 : (Cond.fieldLinkNest RX2 107 RX1 "delay" "[I" RX11) ∈ gwL := gwt_1 139 (by decide +kernel) rfl
theorem zw_322 : (Cond.fieldLinkNest RX2 110 RX1 "keeps" "[I" RX11) ∈ gwL := gwt_1 143 (by decide +kernel) rfl
theorem zw_327 : (Cond.fieldLinkNest RX2 113 RX1 "slots" "[I" RX11) ∈ gwL := gwt_1 148 (by decide +kernel) rfl
theorem zw_790 : (Cond.methodLink RX7 67 yX7_isName) ∈ gwL := gwt_3 131 (by decide +kernel) rfl
theorem zw_791 : (Cond.methodLinkNest RX7 71 yX1_find RX11) ∈ gwL := gwt_3 132 (by decide +kernel) rfl
theorem zw_786 : (Cond.methodLinkNest RX2 116 yX7_known RX11) ∈ gwL := gwt_3 127 (by decide +kernel) rfl
theorem zw_788 : (Cond.instanceMethod yX7_known) ∈ gwL := gwt_3 129 (by decide +kernel) rfl
theorem zw_21 : (Cond.selects RX7 yX7_known yX7_known) ∈ gwL := gwp_2 (q := (yX7_known, 9)) 5 (by decide +kernel) rfl
theorem zw_789 : (.code yX7_known cX7_known 4 (some .int) : Cond) ∈ gwL := gwt_3 130 (by decide +kernel) rfl
theorem zw_792 : (Cond.methodLinkNest RX2 120 yX1_isMember RX11) ∈ gwL := gwt_3 133 (by decide +kernel) rfl
theorem zw_794 : (Cond.instanceMethod yX1_isMember) ∈ gwL := gwt_3 135 (by decide +kernel) rfl
theorem zw_22 : (Cond.selects RX1 yX1_isMember yX1_isMember) ∈ gwL := gwp_2 (q := (yX1_isMember, 14)) 6 (by decide +kernel) rfl
theorem zw_795 : (.code yX1_isMember cX1_isMember 3 (some .boolean) : Cond) ∈ gwL := gwt_3 136 (by decide +kernel) rfl
theorem zw_331 : (Cond.fieldLinkNest RX2 123 RX1 "members" "[I" RX11) ∈ gwL := gwt_1 152 (by decide +kernel) rfl
theorem zw_336 : (Cond.fieldLinkNest RX2 126 RX1 "words" "[I" RX11) ∈ gwL := gwt_1 157 (by decide +kernel) rfl
theorem zw_339 : (Cond.fieldLinkNest RX2 129 RX1 "shares" "[I" RX11) ∈ gwL := gwt_1 160 (by decide +kernel) rfl
theorem zw_808 : (Cond.methodLink RX7 77 yX7_known) ∈ gwL := gwt_3 149 (by decide +kernel) rfl
theorem zw_809 : (Cond.methodLink RX7 81 yX7_pass) ∈ gwL := gwt_3 150 (by decide +kernel) rfl
theorem zw_810 : (Cond.methodLinkNest RX7 85 yX1_isMember RX11) ∈ gwL := gwt_3 151 (by decide +kernel) rfl
theorem zw_804 : (Cond.methodLinkNest RX2 132 yX7_knownMember RX11) ∈ gwL := gwt_3 145 (by decide +kernel) rfl
theorem zw_806 : (Cond.instanceMethod yX7_knownMember) ∈ gwL := gwt_3 147 (by decide +kernel) rfl
theorem zw_25 : (Cond.selects RX7 yX7_knownMember yX7_knownMember) ∈ gwL := gwp_2 (q := (yX7_knownMember, 9)) 9 (by decide +kernel) rfl
theorem zw_807 : (.code yX7_knownMember cX7_knownMember 5 (some .int) : Cond) ∈ gwL := gwt_3 148 (by decide +kernel) rfl
theorem zw_811 : (Cond.methodLinkNest RX2 136 yX1_isTracked RX11) ∈ gwL := gwt_3 152 (by decide +kernel) rfl
theorem zw_813 : (Cond.instanceMethod yX1_isTracked) ∈ gwL := gwt_3 154 (by decide +kernel) rfl
theorem zw_26 : (Cond.selects RX1 yX1_isTracked yX1_isTracked) ∈ gwL := gwp_2 (q := (yX1_isTracked, 14)) 10 (by decide +kernel) rfl
theorem zw_814 : (.code yX1_isTracked cX1_isTracked 4 (some .boolean) : Cond) ∈ gwL := gwt_3 155 (by decide +kernel) rfl
theorem zw_345 : (Cond.fieldLinkNest RX2 139 RX1 "trackMembe\x72" "[I" RX11) ∈ gwL := gwt_1 166 (by decide +kernel) rfl
theorem zw_348 : (Cond.fieldLinkNest RX2 142 RX1 "trackLink" "[I" RX11) ∈ gwL := gwt_1 169 (by decide +kernel) rfl
theorem zw_351 : (Cond.fieldLinkNest RX2 145 RX1 "trackLess" "[I" RX11) ∈ gwL := gwt_1 172 (by decide +kernel) rfl
theorem zw_732 : (Cond.methodLinkNest RX2 42 yX7_ownWord RX11) ∈ gwL := gwt_3 73 (by decide +kernel) rfl
theorem zw_740 : (Cond.methodLink RX2 50 yX2_isFull) ∈ gwL := gwt_3 81 (by decide +kernel) rfl
theorem zw_742 : (Cond.instanceMethod yX2_isFull) ∈ gwL := gwt_3 83 (by decide +kernel) rfl
theorem zw_11 : (Cond.selects RX2 yX2_isFull yX2_isFull) ∈ gwL := gwp_1 (q := (yX2_isFull, 2)) 11 (by decide +kernel) rfl
theorem zw_743 : (.code yX2_isFull cX2_isFull 2 (some .boolean) : Cond) ∈ gwL := gwt_3 84 (by decide +kernel) rfl
theorem zw_748 : (Cond.methodLink RX2 56 yX2_readGroup) ∈ gwL := gwt_3 89 (by decide +kernel) rfl
theorem zw_750 : (Cond.instanceMethod yX2_readGroup) ∈ gwL := gwt_3 91 (by decide +kernel) rfl
theorem zw_12 : (Cond.selects RX2 yX2_readGroup yX2_readGroup) ∈ gwL := gwp_1 (q := (yX2_readGroup, 2)) 12 (by decide +kernel) rfl
theorem zw_751 : (.code yX2_readGroup cX2_readGroup 6 (some .boolean) : Cond) ∈ gwL := gwt_3 92 (by decide +kernel) rfl
theorem zw_815 : (Cond.methodLinkNest RX2 68 yX7_passStop RX11) ∈ gwL := gwt_3 156 (by decide +kernel) rfl
theorem zw_817 : (Cond.instanceMethod yX7_passStop) ∈ gwL := gwt_3 158 (by decide +kernel) rfl
theorem zw_27 : (Cond.selects RX7 yX7_passStop yX7_passStop) ∈ gwL := gwp_2 (q := (yX7_passStop, 9)) 11 (by decide +kernel) rfl
theorem zw_818 : (.code yX7_passStop cX7_passStop 1 (some .boolean) : Cond) ∈ gwL := gwt_3 159 (by decide +kernel) rfl
theorem zw_782 : (Cond.methodLink RX2 59 yX2_readMember) ∈ gwL := gwt_3 123 (by decide +kernel) rfl
theorem zw_784 : (Cond.instanceMethod yX2_readMember) ∈ gwL := gwt_3 125 (by decide +kernel) rfl
theorem zw_20 : (Cond.selects RX2 yX2_readMember yX2_readMember) ∈ gwL := gwp_2 (q := (yX2_readMember, 2)) 4 (by decide +kernel) rfl
theorem zw_785 : (.code yX2_readMember cX2_readMember 6 (some .boolean) : Cond) ∈ gwL := gwt_3 126 (by decide +kernel) rfl
theorem zw_800 : (Cond.methodLink RX2 62 yX2_readTrack) ∈ gwL := gwt_3 141 (by decide +kernel) rfl
theorem zw_802 : (Cond.instanceMethod yX2_readTrack) ∈ gwL := gwt_3 143 (by decide +kernel) rfl
theorem zw_24 : (Cond.selects RX2 yX2_readTrack yX2_readTrack) ∈ gwL := gwp_2 (q := (yX2_readTrack, 2)) 8 (by decide +kernel) rfl
theorem zw_803 : (.code yX2_readTrack cX2_readTrack 6 (some .boolean) : Cond) ∈ gwL := gwt_3 144 (by decide +kernel) rfl
theorem zw_704 : (Cond.methodLinkNest RX2 22 yX1_clear RX11) ∈ gwL := gwt_3 45 (by decide +kernel) rfl
theorem zw_706 : (Cond.instanceMethod yX1_clear) ∈ gwL := gwt_3 47 (by decide +kernel) rfl
theorem zw_2 : (Cond.selects RX1 yX1_clear yX1_clear) ∈ gwL := gwp_1 (q := (yX1_clear, 14)) 2 (by decide +kernel) rfl
theorem zw_707 : (.code yX1_clear cX1_clear 2 none : Cond) ∈ gwL := gwt_3 48 (by decide +kernel) rfl
theorem zw_708 : (Cond.methodLinkNest RX2 25 yX7_open RX11) ∈ gwL := gwt_3 49 (by decide +kernel) rfl
theorem zw_710 : (Cond.instanceMethod yX7_open) ∈ gwL := gwt_3 51 (by decide +kernel) rfl
theorem zw_3 : (Cond.selects RX7 yX7_open yX7_open) ∈ gwL := gwp_1 (q := (yX7_open, 9)) 3 (by decide +kernel) rfl
theorem zw_711 : (.code yX7_open cX7_open 1 none : Cond) ∈ gwL := gwt_3 52 (by decide +kernel) rfl
theorem zw_724 : (Cond.methodLinkNest RX2 30 yX7_isEnded RX11) ∈ gwL := gwt_3 65 (by decide +kernel) rfl
theorem zw_726 : (Cond.instanceMethod yX7_isEnded) ∈ gwL := gwt_3 67 (by decide +kernel) rfl
theorem zw_7 : (Cond.selects RX7 yX7_isEnded yX7_isEnded) ∈ gwL := gwp_1 (q := (yX7_isEnded, 9)) 7 (by decide +kernel) rfl
theorem zw_727 : (.code yX7_isEnded cX7_isEnded 1 (some .boolean) : Cond) ∈ gwL := gwt_3 68 (by decide +kernel) rfl
theorem zw_728 : (Cond.methodLink RX2 34 yX2_readStatement) ∈ gwL := gwt_3 69 (by decide +kernel) rfl
theorem zw_730 : (Cond.instanceMethod yX2_readStatement) ∈ gwL := gwt_3 71 (by decide +kernel) rfl
theorem zw_8 : (Cond.selects RX2 yX2_readStatement yX2_readStatement) ∈ gwL := gwp_1 (q := (yX2_readStatement, 2)) 8 (by decide +kernel) rfl
theorem zw_731 : (.code yX2_readStatement cX2_readStatement 5 (some .boolean) : Cond) ∈ gwL := gwt_3 72 (by decide +kernel) rfl
theorem zw_460 : (Cond.fieldLink RX9 70 RX9 "tick" "I") ∈ gwL := gwt_2 41 (by decide +kernel) rfl
theorem zw_465 : (Cond.fieldLink RX9 74 RX9 "ups" "I") ∈ gwL := gwt_2 46 (by decide +kernel) rfl
theorem zw_468 : (Cond.fieldLink RX9 77 RX9 "cuts" "I") ∈ gwL := gwt_2 49 (by decide +kernel) rfl
theorem zw_471 : (Cond.fieldLink RX9 80 RX9 "part" "I") ∈ gwL := gwt_2 52 (by decide +kernel) rfl
theorem zw_475 : (Cond.fieldLink RX9 83 RX9 "chance" "I") ∈ gwL := gwt_2 56 (by decide +kernel) rfl
theorem zw_478 : (Cond.fieldLink RX9 86 RX9 "x" "I") ∈ gwL := gwt_2 59 (by decide +kernel) rfl
theorem zw_481 : (Cond.fieldLink RX9 89 RX9 "sent" "I") ∈ gwL := gwt_2 62 (by decide +kernel) rfl
theorem zw_485 : (Cond.fieldLink RX9 92 RX9 "lost" "I") ∈ gwL := gwt_2 66 (by decide +kernel) rfl
theorem zw_488 : (Cond.fieldLink RX9 95 RX9 "next" "I") ∈ gwL := gwt_2 69 (by decide +kernel) rfl
theorem zw_410 : (Cond.fieldLink RX5 15 RX5 "count" "I") ∈ gwL := gwt_1 231 (by decide +kernel) rfl
theorem zw_415 : (Cond.fieldLink RX5 11 RX5 "rows" "[I") ∈ gwL := gwt_1 236 (by decide +kernel) rfl
theorem zw_935 : (Cond.methodLink RX5 19 arraycopyName) ∈ gwL := gwt_4 36 (by decide +kernel) rfl
theorem zw_927 : (Cond.methodLink RX9 53 yX9_copyNumbers) ∈ gwL := gwt_4 28 (by decide +kernel) rfl
theorem zw_929 : (Cond.instanceMethod yX9_copyNumbers) ∈ gwL := gwt_4 30 (by decide +kernel) rfl
theorem zw_50 : (Cond.selects RX9 yX9_copyNumbers yX9_copyNumbers) ∈ gwL := gwp_4 (q := (yX9_copyNumbers, 20)) 2 (by decide +kernel) rfl
theorem zw_930 : (.code yX9_copyNumbers cX9_copyNumbers 2 none : Cond) ∈ gwL := gwt_4 31 (by decide +kernel) rfl
theorem zw_190 : (Cond.initialized RX9) ∈ gwL := gwt_1 11 (by decide +kernel) rfl
theorem zw_491 : (Cond.fieldLink RX9 12 RX9 "plan" "LGateGroup$Plan;") ∈ gwL := gwt_2 72 (by decide +kernel) rfl
theorem zw_931 : (Cond.methodLinkNest RX9 57 yX5_copyFrom RX11) ∈ gwL := gwt_4 32 (by decide +kernel) rfl
theorem zw_933 : (Cond.instanceMethod yX5_copyFrom) ∈ gwL := gwt_4 34 (by decide +kernel) rfl
theorem zw_51 : (Cond.selects RX5 yX5_copyFrom yX5_copyFrom) ∈ gwL := gwp_4 (q := (yX5_copyFrom, 2)) 3 (by decide +kernel) rfl
theorem zw_934 : (.code yX5_copyFrom cX5_copyFrom 2 none : Cond) ∈ gwL := gwt_4 35 (by decide +kernel) rfl
theorem zw_189 : (Cond.initialized RX5) ∈ gwL := gwt_1 10 (by decide +kernel) rfl
theorem zw_494 : (Cond.fieldLink RX9 21 RX9 "changes" "LGateGroup$Changes;") ∈ gwL := gwt_2 75 (by decide +kernel) rfl
theorem zw_936 : (Cond.methodLinkNest RX9 61 yX0_copyFrom RX11) ∈ gwL := gwt_4 37 (by decide +kernel) rfl
theorem zw_938 : (Cond.instanceMethod yX0_copyFrom) ∈ gwL := gwt_4 39 (by decide +kernel) rfl
theorem zw_52 : (Cond.selects RX0 yX0_copyFrom yX0_copyFrom) ∈ gwL := gwp_4 (q := (yX0_copyFrom, 3)) 4 (by decide +kernel) rfl
theorem zw_939 : (.code yX0_copyFrom cX0_copyFrom 2 none : Cond) ∈ gwL := gwt_4 40 (by decide +kernel) rfl
theorem zw_191 : (Cond.initialized RX0) ∈ gwL := gwt_1 12 (by decide +kernel) rfl
theorem zw_497 : (Cond.fieldLink RX9 25 RX9 "held" "[I") ∈ gwL := gwt_2 78 (by decide +kernel) rfl
theorem zw_941 : (Cond.methodLink RX9 64 arraycopyName) ∈ gwL := gwt_4 42 (by decide +kernel) rfl
theorem zw_501 : (Cond.fieldLink RX9 29 RX9 "gaps" "[I") ∈ gwL := gwt_2 82 (by decide +kernel) rfl
theorem zw_504 : (Cond.fieldLink RX9 32 RX9 "doubled" "[I") ∈ gwL := gwt_2 85 (by decide +kernel) rfl
theorem zw_507 : (Cond.fieldLink RX9 35 RX9 "takes" "[I") ∈ gwL := gwt_2 88 (by decide +kernel) rfl
theorem zw_511 : (Cond.fieldLink RX9 38 RX9 "told" "[I") ∈ gwL := gwt_2 92 (by decide +kernel) rfl
theorem zw_514 : (Cond.fieldLink RX9 41 RX9 "weight" "[I") ∈ gwL := gwt_2 95 (by decide +kernel) rfl
theorem zw_517 : (Cond.fieldLink RX9 44 RX9 "skew" "[I") ∈ gwL := gwt_2 98 (by decide +kernel) rfl
theorem zw_520 : (Cond.fieldLink RX9 47 RX9 "clock" "[I") ∈ gwL := gwt_2 101 (by decide +kernel) rfl
theorem zw_523 : (Cond.fieldLink RX9 50 RX9 "wish" "[I") ∈ gwL := gwt_2 104 (by decide +kernel) rfl
theorem zw_575 : (Cond.fieldLink RX10 19 RX10 "firstGroup" "I") ∈ gwL := gwt_2 156 (by decide +kernel) rfl
theorem zw_573 : (Cond.fieldLink RX10 9 RX10 "net" "LGateGroup$Net;") ∈ gwL := gwt_2 154 (by decide +kernel) rfl
theorem zw_307 : (Cond.fieldLinkNest RX10 23 RX1 "counts" "[I" RX11) ∈ gwL := gwt_1 128 (by decide +kernel) rfl
theorem zw_576 : (Cond.fieldLink RX10 29 RX10 "lastGroup" "I") ∈ gwL := gwt_2 157 (by decide +kernel) rfl
theorem zw_627 : (Cond.fieldLink RX3 12 RX3 "page" "LGateGroup$State;") ∈ gwL := gwt_2 208 (by decide +kernel) rfl
theorem zw_626 : (Cond.fieldLink RX3 18 RX3 "now" "LGateGroup$State;") ∈ gwL := gwt_2 207 (by decide +kernel) rfl
theorem zw_1207 : (Cond.methodLinkNest RX3 30 yX9_copyFrom RX11) ∈ gwL := gwt_5 68 (by decide +kernel) rfl
theorem zw_925 : (Cond.instanceMethod yX9_copyFrom) ∈ gwL := gwt_4 26 (by decide +kernel) rfl
theorem zw_49 : (Cond.selects RX9 yX9_copyFrom yX9_copyFrom) ∈ gwL := gwp_4 (q := (yX9_copyFrom, 20)) 1 (by decide +kernel) rfl
theorem zw_926 : (.code yX9_copyFrom cX9_copyFrom 2 none : Cond) ∈ gwL := gwt_4 27 (by decide +kernel) rfl
theorem zw_628 : (Cond.fieldLink RX3 26 RX3 "works" "LGateGroup$Works;") ∈ gwL := gwt_2 209 (by decide +kernel) rfl
theorem zw_1212 : (Cond.methodLinkNest RX3 34 yX10_runAllGroups RX11) ∈ gwL := gwt_5 73 (by decide +kernel) rfl
theorem zw_836 : (Cond.instanceMethod yX10_runAllGroups) ∈ gwL := gwt_3 177 (by decide +kernel) rfl
theorem zw_31 : (Cond.selects RX10 yX10_runAllGroups yX10_runAllGroups) ∈ gwL := gwp_2 (q := (yX10_runAllGroups, 5)) 15 (by decide +kernel) rfl
theorem zw_837 : (.code yX10_runAllGroups cX10_runAllGroups 1 none : Cond) ∈ gwL := gwt_3 178 (by decide +kernel) rfl
theorem zw_192 : (Cond.initialized RX10) ∈ gwL := gwt_1 13 (by decide +kernel) rfl
theorem zw_474 : (Cond.fieldLinkNest RX3 37 RX9 "chance" "I" RX11) ∈ gwL := gwt_2 55 (by decide +kernel) rfl
theorem zw_1208 : (Cond.methodLinkNest RX3 41 yX10_runOneGroup RX11) ∈ gwL := gwt_5 69 (by decide +kernel) rfl
theorem zw_1210 : (Cond.instanceMethod yX10_runOneGroup) ∈ gwL := gwt_5 71 (by decide +kernel) rfl
theorem zw_89 : (Cond.selects RX10 yX10_runOneGroup yX10_runOneGroup) ∈ gwL := gwp_6 (q := (yX10_runOneGroup, 5)) 9 (by decide +kernel) rfl
theorem zw_1211 : (.code yX10_runOneGroup cX10_runOneGroup 2 none : Cond) ∈ gwL := gwt_5 72 (by decide +kernel) rfl
theorem zw_574 : (Cond.fieldLink RX10 15 RX10 "state" "LGateGroup$State;") ∈ gwL := gwt_2 155 (by decide +kernel) rfl
theorem zw_490 : (Cond.fieldLinkNest RX10 167 RX9 "next" "I" RX11) ∈ gwL := gwt_2 71 (by decide +kernel) rfl
theorem zw_493 : (Cond.fieldLinkNest RX10 170 RX9 "plan" "LGateGroup$Plan;" RX11) ∈ gwL := gwt_2 74 (by decide +kernel) rfl
theorem zw_414 : (Cond.fieldLinkNest RX10 174 RX5 "count" "I" RX11) ∈ gwL := gwt_1 235 (by decide +kernel) rfl
theorem zw_332 : (Cond.fieldLinkNest RX10 80 RX1 "members" "[I" RX11) ∈ gwL := gwt_1 153 (by decide +kernel) rfl
theorem zw_467 : (Cond.fieldLinkNest RX10 77 RX9 "ups" "I" RX11) ∈ gwL := gwt_2 48 (by decide +kernel) rfl
theorem zw_521 : (Cond.fieldLinkNest RX10 112 RX9 "clock" "[I" RX11) ∈ gwL := gwt_2 102 (by decide +kernel) rfl
theorem zw_1025 : (Cond.methodLink RX10 131 yJ9_min_7cf53) ∈ gwL := gwt_4 126 (by decide +kernel) rfl
theorem zw_921 : (Cond.static yJ9_min_7cf53) ∈ gwL := gwt_4 22 (by decide +kernel) rfl
theorem zw_198 : (Cond.initialized RJ9) ∈ gwL := gwt_1 19 (by decide +kernel) rfl
theorem zw_922 : (.code yJ9_min_7cf53 cJ9_min_7cf53 2 (some .int) : Cond) ∈ gwL := gwt_4 23 (by decide +kernel) rfl
theorem zw_1024 : (Cond.methodLinkNest RX10 179 yX5_at RX11) ∈ gwL := gwt_4 125 (by decide +kernel) rfl
theorem zw_949 : (Cond.instanceMethod yX5_at) ∈ gwL := gwt_4 50 (by decide +kernel) rfl
theorem zw_54 : (Cond.selects RX5 yX5_at yX5_at) ∈ gwL := gwp_4 (q := (yX5_at, 2)) 6 (by decide +kernel) rfl
theorem zw_950 : (.code yX5_at cX5_at 2 (some .int) : Cond) ∈ gwL := gwt_4 51 (by decide +kernel) rfl
theorem zw_463 : (Cond.fieldLinkNest RX10 100 RX9 "tick" "I" RX11) ∈ gwL := gwt_2 44 (by decide +kernel) rfl
theorem zw_1042 : (Cond.methodLink RX9 110 yJ6_bitCount_0f7a4) ∈ gwL := gwt_4 143 (by decide +kernel) rfl
theorem zw_500 : (Cond.fieldLinkNest RX10 93 RX9 "held" "[I" RX11) ∈ gwL := gwt_2 81 (by decide +kernel) rfl
theorem zw_1038 : (Cond.methodLinkNest RX10 230 yX9_isDouble RX11) ∈ gwL := gwt_4 139 (by decide +kernel) rfl
theorem zw_1040 : (Cond.instanceMethod yX9_isDouble) ∈ gwL := gwt_4 141 (by decide +kernel) rfl
theorem zw_66 : (Cond.selects RX9 yX9_isDouble yX9_isDouble) ∈ gwL := gwp_5 (q := (yX9_isDouble, 20)) 2 (by decide +kernel) rfl
theorem zw_1041 : (.code yX9_isDouble cX9_isDouble 3 (some .boolean) : Cond) ∈ gwL := gwt_4 142 (by decide +kernel) rfl
theorem zw_506 : (Cond.fieldLinkNest RX10 234 RX9 "doubled" "[I" RX11) ∈ gwL := gwt_2 87 (by decide +kernel) rfl
theorem zw_503 : (Cond.fieldLinkNest RX10 227 RX9 "gaps" "[I" RX11) ∈ gwL := gwt_2 84 (by decide +kernel) rfl
theorem zw_1030 : (Cond.methodLink RX10 158 yX10_wind) ∈ gwL := gwt_4 131 (by decide +kernel) rfl
theorem zw_1032 : (Cond.instanceMethod yX10_wind) ∈ gwL := gwt_4 133 (by decide +kernel) rfl
theorem zw_64 : (Cond.selects RX10 yX10_wind yX10_wind) ∈ gwL := gwp_5 (q := (yX10_wind, 5)) 0 (by decide +kernel) rfl
theorem zw_1033 : (.code yX10_wind cX10_wind 5 none : Cond) ∈ gwL := gwt_4 134 (by decide +kernel) rfl
theorem zw_1034 : (Cond.methodLink RX10 164 yX10_tally) ∈ gwL := gwt_4 135 (by decide +kernel) rfl
theorem zw_1036 : (Cond.instanceMethod yX10_tally) ∈ gwL := gwt_4 137 (by decide +kernel) rfl
theorem zw_65 : (Cond.selects RX10 yX10_tally yX10_tally) ∈ gwL := gwp_5 (q := (yX10_tally, 5)) 1 (by decide +kernel) rfl
theorem zw_1037 : (.code yX10_tally cX10_tally 4 none : Cond) ∈ gwL := gwt_4 138 (by decide +kernel) rfl
theorem zw_524 : (Cond.fieldLinkNest RX10 115 RX9 "wish" "[I" RX11) ∈ gwL := gwt_2 105 (by decide +kernel) rfl
theorem zw_510 : (Cond.fieldLinkNest RX10 134 RX9 "takes" "[I" RX11) ∈ gwL := gwt_2 91 (by decide +kernel) rfl
theorem zw_578 : (Cond.fieldLink RX10 137 RX10 "stirs" "I") ∈ gwL := gwt_2 159 (by decide +kernel) rfl
theorem zw_496 : (Cond.fieldLinkNest RX10 96 RX9 "changes" "LGateGroup$Changes;" RX11) ∈ gwL := gwt_2 77 (by decide +kernel) rfl
theorem zw_862 : (Cond.methodLinkNest RX10 103 yX0_add RX11) ∈ gwL := gwt_3 203 (by decide +kernel) rfl
theorem zw_864 : (Cond.instanceMethod yX0_add) ∈ gwL := gwt_3 205 (by decide +kernel) rfl
theorem zw_38 : (Cond.selects RX0 yX0_add yX0_add) ∈ gwL := gwp_3 (q := (yX0_add, 3)) 6 (by decide +kernel) rfl
theorem zw_865 : (.code yX0_add cX0_add 6 none : Cond) ∈ gwL := gwt_3 206 (by decide +kernel) rfl
theorem zw_518 : (Cond.fieldLinkNest RX10 67 RX9 "skew" "[I" RX11) ∈ gwL := gwt_2 99 (by decide +kernel) rfl
theorem zw_870 : (Cond.methodLinkNest RX10 140 yX1_patience RX11) ∈ gwL := gwt_3 211 (by decide +kernel) rfl
theorem zw_872 : (Cond.instanceMethod yX1_patience) ∈ gwL := gwt_3 213 (by decide +kernel) rfl
theorem zw_40 : (Cond.selects RX1 yX1_patience yX1_patience) ∈ gwL := gwp_3 (q := (yX1_patience, 14)) 8 (by decide +kernel) rfl
theorem zw_873 : (.code yX1_patience cX1_patience 3 (some .int) : Cond) ∈ gwL := gwt_3 214 (by decide +kernel) rfl
theorem zw_515 : (Cond.fieldLinkNest RX10 64 RX9 "weight" "[I" RX11) ∈ gwL := gwt_2 96 (by decide +kernel) rfl
theorem zw_866 : (Cond.methodLink RX10 87 yX10_await) ∈ gwL := gwt_3 207 (by decide +kernel) rfl
theorem zw_868 : (Cond.instanceMethod yX10_await) ∈ gwL := gwt_3 209 (by decide +kernel) rfl
theorem zw_39 : (Cond.selects RX10 yX10_await yX10_await) ∈ gwL := gwp_3 (q := (yX10_await, 5)) 7 (by decide +kernel) rfl
theorem zw_869 : (.code yX10_await cX10_await 4 none : Cond) ∈ gwL := gwt_3 210 (by decide +kernel) rfl
theorem zw_858 : (Cond.methodLink RX10 83 yX10_hold) ∈ gwL := gwt_3 199 (by decide +kernel) rfl
theorem zw_860 : (Cond.instanceMethod yX10_hold) ∈ gwL := gwt_3 201 (by decide +kernel) rfl
theorem zw_37 : (Cond.selects RX10 yX10_hold yX10_hold) ∈ gwL := gwp_3 (q := (yX10_hold, 5)) 5 (by decide +kernel) rfl
theorem zw_861 : (.code yX10_hold cX10_hold 4 none : Cond) ∈ gwL := gwt_3 202 (by decide +kernel) rfl
theorem zw_483 : (Cond.fieldLinkNest RX10 118 RX9 "sent" "I" RX11) ∈ gwL := gwt_2 64 (by decide +kernel) rfl
theorem zw_1056 : (Cond.methodLinkNest RX10 121 yX9_beside RX11) ∈ gwL := gwt_4 157 (by decide +kernel) rfl
theorem zw_1058 : (Cond.instanceMethod yX9_beside) ∈ gwL := gwt_4 159 (by decide +kernel) rfl
theorem zw_70 : (Cond.selects RX9 yX9_beside yX9_beside) ∈ gwL := gwp_5 (q := (yX9_beside, 20)) 6 (by decide +kernel) rfl
theorem zw_1059 : (.code yX9_beside cX9_beside 2 (some .int) : Cond) ∈ gwL := gwt_4 160 (by decide +kernel) rfl
theorem zw_1060 : (Cond.methodLink RX10 125 yJ9_max_7cf53) ∈ gwL := gwt_4 161 (by decide +kernel) rfl
theorem zw_1061 : (Cond.static yJ9_max_7cf53) ∈ gwL := gwt_4 162 (by decide +kernel) rfl
theorem zw_1062 : (.code yJ9_max_7cf53 cJ9_max_7cf53 2 (some .int) : Cond) ∈ gwL := gwt_4 163 (by decide +kernel) rfl
theorem zw_1051 : (Cond.methodLinkNest RX10 90 yX9_isHeld RX11) ∈ gwL := gwt_4 152 (by decide +kernel) rfl
theorem zw_989 : (Cond.instanceMethod yX9_isHeld) ∈ gwL := gwt_4 90 (by decide +kernel) rfl
theorem zw_58 : (Cond.selects RX9 yX9_isHeld yX9_isHeld) ∈ gwL := gwp_4 (q := (yX9_isHeld, 20)) 10 (by decide +kernel) rfl
theorem zw_990 : (.code yX9_isHeld cX9_isHeld 3 (some .boolean) : Cond) ∈ gwL := gwt_4 91 (by decide +kernel) rfl
theorem zw_1052 : (Cond.methodLink RX10 109 yX10_sayFarewell) ∈ gwL := gwt_4 153 (by decide +kernel) rfl
theorem zw_1054 : (Cond.instanceMethod yX10_sayFarewell) ∈ gwL := gwt_4 155 (by decide +kernel) rfl
theorem zw_69 : (Cond.selects RX10 yX10_sayFarewell yX10_sayFarewell) ∈ gwL := gwp_5 (q := (yX10_sayFarewell, 5)) 5 (by decide +kernel) rfl
theorem zw_1055 : (.code yX10_sayFarewell cX10_sayFarewell 6 none : Cond) ∈ gwL := gwt_4 156 (by decide +kernel) rfl
theorem zw_512 : (Cond.fieldLinkNest RX10 57 RX9 "told" "[I" RX11) ∈ gwL := gwt_2 93 (by decide +kernel) rfl
theorem zw_469 : (Cond.fieldLinkNest RX10 51 RX9 "cuts" "I" RX11) ∈ gwL := gwt_2 50 (by decide +kernel) rfl
theorem zw_850 : (Cond.methodLinkNest RX10 60 yX1_weightOf RX11) ∈ gwL := gwt_3 191 (by decide +kernel) rfl
theorem zw_852 : (Cond.instanceMethod yX1_weightOf) ∈ gwL := gwt_3 193 (by decide +kernel) rfl
theorem zw_35 : (Cond.selects RX1 yX1_weightOf yX1_weightOf) ∈ gwL := gwp_3 (q := (yX1_weightOf, 14)) 3 (by decide +kernel) rfl
theorem zw_853 : (.code yX1_weightOf cX1_weightOf 6 (some .int) : Cond) ∈ gwL := gwt_3 194 (by decide +kernel) rfl
theorem zw_314 : (Cond.fieldLinkNest RX10 70 RX1 "every" "[I" RX11) ∈ gwL := gwt_1 135 (by decide +kernel) rfl
theorem zw_846 : (Cond.methodLink RX10 54 yX10_weigh) ∈ gwL := gwt_3 187 (by decide +kernel) rfl
theorem zw_848 : (Cond.instanceMethod yX10_weigh) ∈ gwL := gwt_3 189 (by decide +kernel) rfl
theorem zw_34 : (Cond.selects RX10 yX10_weigh yX10_weigh) ∈ gwL := gwp_3 (q := (yX10_weigh, 5)) 2 (by decide +kernel) rfl
theorem zw_849 : (.code yX10_weigh cX10_weigh 3 none : Cond) ∈ gwL := gwt_3 190 (by decide +kernel) rfl
theorem zw_1067 : (Cond.methodLinkNest RX10 73 yX1_isMember RX11) ∈ gwL := gwt_4 168 (by decide +kernel) rfl
theorem zw_417 : (Cond.fieldLinkNest RX10 182 RX5 "rows" "[I" RX11) ∈ gwL := gwt_1 238 (by decide +kernel) rfl
theorem zw_854 : (Cond.methodLink RX10 48 yX10_raise) ∈ gwL := gwt_3 195 (by decide +kernel) rfl
theorem zw_856 : (Cond.instanceMethod yX10_raise) ∈ gwL := gwt_3 197 (by decide +kernel) rfl
theorem zw_36 : (Cond.selects RX10 yX10_raise yX10_raise) ∈ gwL := gwp_3 (q := (yX10_raise, 5)) 4 (by decide +kernel) rfl
theorem zw_857 : (.code yX10_raise cX10_raise 4 none : Cond) ∈ gwL := gwt_3 198 (by decide +kernel) rfl
theorem zw_1047 : (Cond.methodLink RX10 185 yX10_lower) ∈ gwL := gwt_4 148 (by decide +kernel) rfl
theorem zw_1049 : (Cond.instanceMethod yX10_lower) ∈ gwL := gwt_4 150 (by decide +kernel) rfl
theorem zw_68 : (Cond.selects RX10 yX10_lower yX10_lower) ∈ gwL := gwp_5 (q := (yX10_lower, 5)) 4 (by decide +kernel) rfl
theorem zw_1050 : (.code yX10_lower cX10_lower 5 (some .int) : Cond) ∈ gwL := gwt_4 151 (by decide +kernel) rfl
theorem zw_842 : (Cond.methodLink RX10 44 yX10_setCuts) ∈ gwL := gwt_3 183 (by decide +kernel) rfl
theorem zw_844 : (Cond.instanceMethod yX10_setCuts) ∈ gwL := gwt_3 185 (by decide +kernel) rfl
theorem zw_33 : (Cond.selects RX10 yX10_setCuts yX10_setCuts) ∈ gwL := gwp_3 (q := (yX10_setCuts, 5)) 1 (by decide +kernel) rfl
theorem zw_845 : (.code yX10_setCuts cX10_setCuts 3 none : Cond) ∈ gwL := gwt_3 186 (by decide +kernel) rfl
theorem zw_473 : (Cond.fieldLinkNest RX10 189 RX9 "part" "I" RX11) ∈ gwL := gwt_2 54 (by decide +kernel) rfl
theorem zw_1063 : (Cond.methodLink RX10 192 yX10_tell) ∈ gwL := gwt_4 164 (by decide +kernel) rfl
theorem zw_1065 : (Cond.instanceMethod yX10_tell) ∈ gwL := gwt_4 166 (by decide +kernel) rfl
theorem zw_71 : (Cond.selects RX10 yX10_tell yX10_tell) ∈ gwL := gwp_5 (q := (yX10_tell, 5)) 7 (by decide +kernel) rfl
theorem zw_1066 : (.code yX10_tell cX10_tell 4 none : Cond) ∈ gwL := gwt_4 167 (by decide +kernel) rfl
theorem zw_477 : (Cond.fieldLinkNest RX10 203 RX9 "chance" "I" RX11) ∈ gwL := gwt_2 58 (by decide +kernel) rfl
theorem zw_1080 : (Cond.constantLong RX10 206 (1103515245)) ∈ gwL := gwt_4 181 (by decide +kernel) rfl
theorem zw_480 : (Cond.fieldLinkNest RX10 208 RX9 "x" "I" RX11) ∈ gwL := gwt_2 61 (by decide +kernel) rfl
theorem zw_1081 : (Cond.constantLong RX10 211 (12345)) ∈ gwL := gwt_4 182 (by decide +kernel) rfl
theorem zw_1082 : (Cond.constantLong RX10 213 (2147483647)) ∈ gwL := gwt_4 183 (by decide +kernel) rfl
theorem zw_487 : (Cond.fieldLinkNest RX10 215 RX9 "lost" "I" RX11) ∈ gwL := gwt_2 68 (by decide +kernel) rfl
theorem zw_324 : (Cond.fieldLinkNest RX10 221 RX1 "keeps" "[I" RX11) ∈ gwL := gwt_1 145 (by decide +kernel) rfl
theorem zw_320 : (Cond.fieldLinkNest RX10 224 RX1 "delay" "[I" RX11) ∈ gwL := gwt_1 141 (by decide +kernel) rfl
theorem zw_1087 : (Cond.methodLink RX10 218 yX10_giveUp) ∈ gwL := gwt_4 188 (by decide +kernel) rfl
theorem zw_1089 : (Cond.instanceMethod yX10_giveUp) ∈ gwL := gwt_4 190 (by decide +kernel) rfl
theorem zw_76 : (Cond.selects RX10 yX10_giveUp yX10_giveUp) ∈ gwL := gwp_5 (q := (yX10_giveUp, 5)) 12 (by decide +kernel) rfl
theorem zw_1090 : (.code yX10_giveUp cX10_giveUp 3 none : Cond) ∈ gwL := gwt_4 191 (by decide +kernel) rfl
theorem zw_1076 : (Cond.methodLink RX10 196 yX10_isLost) ∈ gwL := gwt_4 177 (by decide +kernel) rfl
theorem zw_1078 : (Cond.instanceMethod yX10_isLost) ∈ gwL := gwt_4 179 (by decide +kernel) rfl
theorem zw_74 : (Cond.selects RX10 yX10_isLost yX10_isLost) ∈ gwL := gwp_5 (q := (yX10_isLost, 5)) 10 (by decide +kernel) rfl
theorem zw_1079 : (.code yX10_isLost cX10_isLost 2 (some .boolean) : Cond) ∈ gwL := gwt_4 180 (by decide +kernel) rfl
theorem zw_1083 : (Cond.methodLink RX10 200 yX10_readLetter) ∈ gwL := gwt_4 184 (by decide +kernel) rfl
theorem zw_1085 : (Cond.instanceMethod yX10_readLetter) ∈ gwL := gwt_4 186 (by decide +kernel) rfl
theorem zw_75 : (Cond.selects RX10 yX10_readLetter yX10_readLetter) ∈ gwL := gwp_5 (q := (yX10_readLetter, 5)) 11 (by decide +kernel) rfl
theorem zw_1086 : (.code yX10_readLetter cX10_readLetter 8 none : Cond) ∈ gwL := gwt_4 187 (by decide +kernel) rfl
theorem zw_1020 : (Cond.methodLink RX10 146 yX10_quietTicks) ∈ gwL := gwt_4 121 (by decide +kernel) rfl
theorem zw_1022 : (Cond.instanceMethod yX10_quietTicks) ∈ gwL := gwt_4 123 (by decide +kernel) rfl
theorem zw_62 : (Cond.selects RX10 yX10_quietTicks yX10_quietTicks) ∈ gwL := gwp_4 (q := (yX10_quietTicks, 5)) 14 (by decide +kernel) rfl
theorem zw_1023 : (.code yX10_quietTicks cX10_quietTicks 6 (some .int) : Cond) ∈ gwL := gwt_4 124 (by decide +kernel) rfl
theorem zw_1043 : (Cond.methodLink RX10 152 yX10_happen) ∈ gwL := gwt_4 144 (by decide +kernel) rfl
theorem zw_1045 : (Cond.instanceMethod yX10_happen) ∈ gwL := gwt_4 146 (by decide +kernel) rfl
theorem zw_67 : (Cond.selects RX10 yX10_happen yX10_happen) ∈ gwL := gwp_5 (q := (yX10_happen, 5)) 3 (by decide +kernel) rfl
theorem zw_1046 : (.code yX10_happen cX10_happen 4 none : Cond) ∈ gwL := gwt_4 147 (by decide +kernel) rfl
theorem zw_1068 : (Cond.methodLink RX10 155 yX10_send) ∈ gwL := gwt_4 169 (by decide +kernel) rfl
theorem zw_1070 : (Cond.instanceMethod yX10_send) ∈ gwL := gwt_4 171 (by decide +kernel) rfl
theorem zw_72 : (Cond.selects RX10 yX10_send yX10_send) ∈ gwL := gwp_5 (q := (yX10_send, 5)) 8 (by decide +kernel) rfl
theorem zw_1071 : (.code yX10_send cX10_send 6 (some .int) : Cond) ∈ gwL := gwt_4 172 (by decide +kernel) rfl
theorem zw_1072 : (Cond.methodLink RX10 161 yX10_deliver) ∈ gwL := gwt_4 173 (by decide +kernel) rfl
theorem zw_1074 : (Cond.instanceMethod yX10_deliver) ∈ gwL := gwt_4 175 (by decide +kernel) rfl
theorem zw_73 : (Cond.selects RX10 yX10_deliver yX10_deliver) ∈ gwL := gwp_5 (q := (yX10_deliver, 5)) 9 (by decide +kernel) rfl
theorem zw_1075 : (.code yX10_deliver cX10_deliver 6 none : Cond) ∈ gwL := gwt_4 176 (by decide +kernel) rfl
theorem zw_1026 : (Cond.methodLink RX10 149 yX10_passQuietly) ∈ gwL := gwt_4 127 (by decide +kernel) rfl
theorem zw_1028 : (Cond.instanceMethod yX10_passQuietly) ∈ gwL := gwt_4 129 (by decide +kernel) rfl
theorem zw_63 : (Cond.selects RX10 yX10_passQuietly yX10_passQuietly) ∈ gwL := gwp_4 (q := (yX10_passQuietly, 5)) 15 (by decide +kernel) rfl
theorem zw_1029 : (.code yX10_passQuietly cX10_passQuietly 3 none : Cond) ∈ gwL := gwt_4 130 (by decide +kernel) rfl
theorem zw_1016 : (Cond.methodLink RX10 143 yX10_step) ∈ gwL := gwt_4 117 (by decide +kernel) rfl
theorem zw_1018 : (Cond.instanceMethod yX10_step) ∈ gwL := gwt_4 119 (by decide +kernel) rfl
theorem zw_61 : (Cond.selects RX10 yX10_step yX10_step) ∈ gwL := gwp_4 (q := (yX10_step, 5)) 13 (by decide +kernel) rfl
theorem zw_1019 : (.code yX10_step cX10_step 5 (some .int) : Cond) ∈ gwL := gwt_4 120 (by decide +kernel) rfl
theorem zw_1203 : (Cond.methodLink RX3 45 yX3_open) ∈ gwL := gwt_5 64 (by decide +kernel) rfl
theorem zw_1205 : (Cond.instanceMethod yX3_open) ∈ gwL := gwt_5 66 (by decide +kernel) rfl
theorem zw_88 : (Cond.selects RX3 yX3_open yX3_open) ∈ gwL := gwp_6 (q := (yX3_open, 3)) 8 (by decide +kernel) rfl
theorem zw_1206 : (.code yX3_open cX3_open 2 none : Cond) ∈ gwL := gwt_5 67 (by decide +kernel) rfl
theorem zw_194 : (Cond.initialized RX3) ∈ gwL := gwt_1 15 (by decide +kernel) rfl
theorem zw_1213 : (Cond.methodLinkNest RX3 48 yX10_run RX11) ∈ gwL := gwt_5 74 (by decide +kernel) rfl
theorem zw_1014 : (Cond.instanceMethod yX10_run) ∈ gwL := gwt_4 115 (by decide +kernel) rfl
theorem zw_60 : (Cond.selects RX10 yX10_run yX10_run) ∈ gwL := gwp_4 (q := (yX10_run, 5)) 12 (by decide +kernel) rfl
theorem zw_1015 : (.code yX10_run cX10_run 3 none : Cond) ∈ gwL := gwt_4 116 (by decide +kernel) rfl
theorem zw_498 : (Cond.fieldLinkNest RX3 51 RX9 "held" "[I" RX11) ∈ gwL := gwt_2 79 (by decide +kernel) rfl
theorem zw_462 : (Cond.fieldLinkNest RX3 82 RX9 "tick" "I" RX11) ∈ gwL := gwt_2 43 (by decide +kernel) rfl
theorem zw_1227 : (Cond.methodLink RX3 85 yJ9_min_7cf53) ∈ gwL := gwt_5 88 (by decide +kernel) rfl
theorem zw_1232 : (Cond.methodLinkNest RX3 76 yX9_beside RX11) ∈ gwL := gwt_5 93 (by decide +kernel) rfl
theorem zw_1233 : (Cond.methodLinkNest RX3 79 yX9_strongest RX11) ∈ gwL := gwt_5 94 (by decide +kernel) rfl
theorem zw_1143 : (Cond.instanceMethod yX9_strongest) ∈ gwL := gwt_5 4 (by decide +kernel) rfl
theorem zw_81 : (Cond.selects RX9 yX9_strongest yX9_strongest) ∈ gwL := gwp_6 (q := (yX9_strongest, 20)) 1 (by decide +kernel) rfl
theorem zw_1144 : (.code yX9_strongest cX9_strongest 6 (some .int) : Cond) ∈ gwL := gwt_5 5 (by decide +kernel) rfl
theorem zw_1222 : (Cond.methodLinkNest RX3 55 yX10_lower RX11) ∈ gwL := gwt_5 83 (by decide +kernel) rfl
theorem zw_1223 : (Cond.methodLink RX3 59 yX3_mostTicks) ∈ gwL := gwt_5 84 (by decide +kernel) rfl
theorem zw_1225 : (Cond.instanceMethod yX3_mostTicks) ∈ gwL := gwt_5 86 (by decide +kernel) rfl
theorem zw_91 : (Cond.selects RX3 yX3_mostTicks yX3_mostTicks) ∈ gwL := gwp_6 (q := (yX3_mostTicks, 3)) 11 (by decide +kernel) rfl
theorem zw_1226 : (.code yX3_mostTicks cX3_mostTicks 1 (some .int) : Cond) ∈ gwL := gwt_5 87 (by decide +kernel) rfl
theorem zw_1228 : (Cond.methodLink RX3 63 yX3_otherHolder) ∈ gwL := gwt_5 89 (by decide +kernel) rfl
theorem zw_1230 : (Cond.instanceMethod yX3_otherHolder) ∈ gwL := gwt_5 91 (by decide +kernel) rfl
theorem zw_92 : (Cond.selects RX3 yX3_otherHolder yX3_otherHolder) ∈ gwL := gwp_6 (q := (yX3_otherHolder, 3)) 12 (by decide +kernel) rfl
theorem zw_1231 : (.code yX3_otherHolder cX3_otherHolder 3 (some .int) : Cond) ∈ gwL := gwt_5 92 (by decide +kernel) rfl
theorem zw_1234 : (Cond.methodLinkNest RX3 67 yX10_step RX11) ∈ gwL := gwt_5 95 (by decide +kernel) rfl
theorem zw_1235 : (Cond.methodLink RX3 71 yJ9_max_7cf53) ∈ gwL := gwt_5 96 (by decide +kernel) rfl
theorem zw_1249 : (Cond.methodLink RX3 88 yX3_openAll) ∈ gwL := gwt_5 110 (by decide +kernel) rfl
theorem zw_1251 : (Cond.instanceMethod yX3_openAll) ∈ gwL := gwt_5 112 (by decide +kernel) rfl
theorem zw_94 : (Cond.selects RX3 yX3_openAll yX3_openAll) ∈ gwL := gwp_6 (q := (yX3_openAll, 3)) 14 (by decide +kernel) rfl
theorem zw_1252 : (.code yX3_openAll cX3_openAll 1 none : Cond) ∈ gwL := gwt_5 113 (by decide +kernel) rfl
theorem zw_577 : (Cond.fieldLinkNest RX3 91 RX10 "stirs" "I" RX11) ∈ gwL := gwt_2 158 (by decide +kernel) rfl
theorem zw_1261 : (Cond.methodLinkNest RX3 94 yX10_tell RX11) ∈ gwL := gwt_5 122 (by decide +kernel) rfl
theorem zw_1262 : (Cond.methodLinkNest RX3 98 yX9_isHeld RX11) ∈ gwL := gwt_5 123 (by decide +kernel) rfl
theorem zw_509 : (Cond.fieldLinkNest RX3 102 RX9 "takes" "[I" RX11) ∈ gwL := gwt_2 90 (by decide +kernel) rfl
theorem zw_1140 : (Cond.methodLink RX9 116 yX9_beside) ∈ gwL := gwt_5 1 (by decide +kernel) rfl
theorem zw_1141 : (Cond.methodLink RX9 119 yX9_strongest) ∈ gwL := gwt_5 2 (by decide +kernel) rfl
theorem zw_1283 : (Cond.methodLinkNest RX3 105 yX10_setCuts RX11) ∈ gwL := gwt_5 144 (by decide +kernel) rfl
theorem zw_1284 : (Cond.methodLinkNest RX3 108 yX9_holderBeside RX11) ∈ gwL := gwt_5 145 (by decide +kernel) rfl
theorem zw_1138 : (Cond.instanceMethod yX9_holderBeside) ∈ gwL := gwt_4 239 (by decide +kernel) rfl
theorem zw_80 : (Cond.selects RX9 yX9_holderBeside yX9_holderBeside) ∈ gwL := gwp_6 (q := (yX9_holderBeside, 20)) 0 (by decide +kernel) rfl
theorem zw_1139 : (.code yX9_holderBeside cX9_holderBeside 3 (some .int) : Cond) ∈ gwL := gwt_5 0 (by decide +kernel) rfl
theorem zw_484 : (Cond.fieldLinkNest RX3 111 RX9 "sent" "I" RX11) ∈ gwL := gwt_2 65 (by decide +kernel) rfl
theorem zw_1309 : (Cond.methodLinkNest RX3 114 yX10_raise RX11) ∈ gwL := gwt_5 170 (by decide +kernel) rfl
theorem zw_601 : (Cond.fieldLink RX4 21 RX4 "count" "I") ∈ gwL := gwt_2 182 (by decide +kernel) rfl
theorem zw_604 : (Cond.fieldLink RX4 25 RX4 "imagesKept" "I") ∈ gwL := gwt_2 185 (by decide +kernel) rfl
theorem zw_603 : (Cond.fieldLink RX4 28 RX4 "newest" "I") ∈ gwL := gwt_2 184 (by decide +kernel) rfl
theorem zw_920 : (Cond.methodLink RX4 31 yJ9_min_7cf53) ∈ gwL := gwt_4 21 (by decide +kernel) rfl
theorem zw_599 : (Cond.fieldLink RX4 11 RX4 "acts" "[LGateGroup$State;") ∈ gwL := gwt_2 180 (by decide +kernel) rfl
theorem zw_923 : (Cond.methodLinkNest RX4 37 yX9_copyFrom RX11) ∈ gwL := gwt_4 24 (by decide +kernel) rfl
theorem zw_600 : (Cond.fieldLink RX4 17 RX4 "images" "[LGateGroup$State;") ∈ gwL := gwt_2 181 (by decide +kernel) rfl
theorem zw_947 : (Cond.methodLink RX5 25 yX5_at) ∈ gwL := gwt_4 48 (by decide +kernel) rfl
theorem zw_423 : (Cond.fieldLink RX6 18 RX6 "reade\x72" "LGateGroup$Reader;") ∈ gwL := gwt_2 4 (by decide +kernel) rfl
theorem zw_270 : (Cond.fieldLinkNest RX6 50 RX7 "start" "I" RX11) ∈ gwL := gwt_1 91 (by decide +kernel) rfl
theorem zw_888 : (Cond.methodLinkNest RX6 53 yX7_pass RX11) ∈ gwL := gwt_3 229 (by decide +kernel) rfl
theorem zw_890 : (Cond.methodLinkNest RX6 60 yX7_number RX11) ∈ gwL := gwt_3 231 (by decide +kernel) rfl
theorem zw_889 : (Cond.methodLinkNest RX6 56 yX7_refuse RX11) ∈ gwL := gwt_3 230 (by decide +kernel) rfl
theorem zw_424 : (Cond.fieldLink RX6 22 RX6 "net" "LGateGroup$Net;") ∈ gwL := gwt_2 5 (by decide +kernel) rfl
theorem zw_901 : (Cond.methodLinkNest RX6 84 yX7_knownMember RX11) ∈ gwL := gwt_4 2 (by decide +kernel) rfl
theorem zw_425 : (Cond.fieldLink RX6 12 RX6 "draft" "LGateGroup$Plan;") ∈ gwL := gwt_2 6 (by decide +kernel) rfl
theorem zw_902 : (Cond.methodLinkNest RX6 73 yX5_add RX11) ∈ gwL := gwt_4 3 (by decide +kernel) rfl
theorem zw_904 : (Cond.instanceMethod yX5_add) ∈ gwL := gwt_4 5 (by decide +kernel) rfl
theorem zw_45 : (Cond.selects RX5 yX5_add yX5_add) ∈ gwL := gwp_3 (q := (yX5_add, 2)) 13 (by decide +kernel) rfl
theorem zw_905 : (.code yX5_add cX5_add 7 none : Cond) ∈ gwL := gwt_4 6 (by decide +kernel) rfl
theorem zw_914 : (Cond.methodLinkNest RX6 80 yX7_known RX11) ∈ gwL := gwt_4 15 (by decide +kernel) rfl
theorem zw_910 : (Cond.methodLinkNest RX6 88 yX7_isStop RX11) ∈ gwL := gwt_4 11 (by decide +kernel) rfl
theorem zw_912 : (Cond.instanceMethod yX7_isStop) ∈ gwL := gwt_4 13 (by decide +kernel) rfl
theorem zw_47 : (Cond.selects RX7 yX7_isStop yX7_isStop) ∈ gwL := gwp_3 (q := (yX7_isStop, 9)) 15 (by decide +kernel) rfl
theorem zw_913 : (.code yX7_isStop cX7_isStop 1 (some .boolean) : Cond) ∈ gwL := gwt_4 14 (by decide +kernel) rfl
theorem zw_895 : (Cond.methodLinkNest RX6 63 yX7_ownWord RX11) ∈ gwL := gwt_3 236 (by decide +kernel) rfl
theorem zw_896 : (Cond.methodLinkNest RX6 67 yX7_advance RX11) ∈ gwL := gwt_3 237 (by decide +kernel) rfl
theorem zw_906 : (Cond.methodLink RX6 77 yX6_readGates) ∈ gwL := gwt_4 7 (by decide +kernel) rfl
theorem zw_908 : (Cond.instanceMethod yX6_readGates) ∈ gwL := gwt_4 9 (by decide +kernel) rfl
theorem zw_46 : (Cond.selects RX6 yX6_readGates yX6_readGates) ∈ gwL := gwp_3 (q := (yX6_readGates, 3)) 14 (by decide +kernel) rfl
theorem zw_909 : (.code yX6_readGates cX6_readGates 5 (some .int) : Cond) ∈ gwL := gwt_4 10 (by decide +kernel) rfl
theorem zw_188 : (Cond.initialized RX6) ∈ gwL := gwt_1 9 (by decide +kernel) rfl
theorem zw_897 : (Cond.methodLink RX6 70 yX6_readWordEvent) ∈ gwL := gwt_3 238 (by decide +kernel) rfl
theorem zw_899 : (Cond.instanceMethod yX6_readWordEvent) ∈ gwL := gwt_4 0 (by decide +kernel) rfl
theorem zw_44 : (Cond.selects RX6 yX6_readWordEvent yX6_readWordEvent) ∈ gwL := gwp_3 (q := (yX6_readWordEvent, 3)) 12 (by decide +kernel) rfl
theorem zw_900 : (.code yX6_readWordEvent cX6_readWordEvent 4 (some .boolean) : Cond) ∈ gwL := gwt_4 1 (by decide +kernel) rfl
theorem zw_411 : (Cond.fieldLinkNest RX6 26 RX5 "count" "I" RX11) ∈ gwL := gwt_1 232 (by decide +kernel) rfl
theorem zw_882 : (Cond.methodLinkNest RX6 30 yX7_open RX11) ∈ gwL := gwt_3 223 (by decide +kernel) rfl
theorem zw_883 : (Cond.methodLinkNest RX6 35 yX7_isEnded RX11) ∈ gwL := gwt_3 224 (by decide +kernel) rfl
theorem zw_884 : (Cond.methodLink RX6 39 yX6_readAt) ∈ gwL := gwt_3 225 (by decide +kernel) rfl
theorem zw_886 : (Cond.instanceMethod yX6_readAt) ∈ gwL := gwt_3 227 (by decide +kernel) rfl
theorem zw_42 : (Cond.selects RX6 yX6_readAt yX6_readAt) ∈ gwL := gwp_3 (q := (yX6_readAt, 3)) 10 (by decide +kernel) rfl
theorem zw_887 : (.code yX6_readAt cX6_readAt 4 (some .int) : Cond) ∈ gwL := gwt_3 228 (by decide +kernel) rfl
theorem zw_891 : (Cond.methodLink RX6 43 yX6_readEvent) ∈ gwL := gwt_3 232 (by decide +kernel) rfl
theorem zw_893 : (Cond.instanceMethod yX6_readEvent) ∈ gwL := gwt_3 234 (by decide +kernel) rfl
theorem zw_43 : (Cond.selects RX6 yX6_readEvent yX6_readEvent) ∈ gwL := gwp_3 (q := (yX6_readEvent, 3)) 11 (by decide +kernel) rfl
theorem zw_894 : (.code yX6_readEvent cX6_readEvent 5 (some .boolean) : Cond) ∈ gwL := gwt_3 235 (by decide +kernel) rfl
theorem zw_915 : (Cond.methodLinkNest RX6 47 yX7_passStop RX11) ∈ gwL := gwt_4 16 (by decide +kernel) rfl
theorem zw_645 : (Cond.fieldLink RX8 15 RX8 "got" "[I") ∈ gwL := gwt_2 226 (by decide +kernel) rfl
theorem zw_642 : (Cond.fieldLink RX8 18 RX8 "net" "LGateGroup$Net;") ∈ gwL := gwt_2 223 (by decide +kernel) rfl
theorem zw_338 : (Cond.fieldLinkNest RX8 48 RX1 "shares" "[I" RX11) ∈ gwL := gwt_1 159 (by decide +kernel) rfl
theorem zw_330 : (Cond.fieldLinkNest RX8 26 RX1 "members" "[I" RX11) ∈ gwL := gwt_1 151 (by decide +kernel) rfl
theorem zw_643 : (Cond.fieldLink RX8 22 RX8 "now" "LGateGroup$State;") ∈ gwL := gwt_2 224 (by decide +kernel) rfl
theorem zw_464 : (Cond.fieldLinkNest RX8 31 RX9 "ups" "I" RX11) ∈ gwL := gwt_2 45 (by decide +kernel) rfl
theorem zw_1166 : (Cond.methodLinkNest RX8 37 yX9_beside RX11) ∈ gwL := gwt_5 27 (by decide +kernel) rfl
theorem zw_326 : (Cond.fieldLinkNest RX8 41 RX1 "slots" "[I" RX11) ∈ gwL := gwt_1 147 (by decide +kernel) rfl
theorem zw_644 : (Cond.fieldLink RX8 9 RX8 "owne\x72" "[I") ∈ gwL := gwt_2 225 (by decide +kernel) rfl
theorem zw_1167 : (Cond.methodLink RX8 44 yX8_neediest) ∈ gwL := gwt_5 28 (by decide +kernel) rfl
theorem zw_1169 : (Cond.instanceMethod yX8_neediest) ∈ gwL := gwt_5 30 (by decide +kernel) rfl
theorem zw_83 : (Cond.selects RX8 yX8_neediest yX8_neediest) ∈ gwL := gwp_6 (q := (yX8_neediest, 4)) 3 (by decide +kernel) rfl
theorem zw_1170 : (.code yX8_neediest cX8_neediest 9 (some .int) : Cond) ∈ gwL := gwt_5 31 (by decide +kernel) rfl
theorem zw_195 : (Cond.initialized RX8) ∈ gwL := gwt_1 16 (by decide +kernel) rfl
theorem zw_412 : (Cond.fieldLinkNest RX9 98 RX5 "count" "I" RX11) ∈ gwL := gwt_1 233 (by decide +kernel) rfl
theorem zw_449 : (Cond.fieldLinkNest RX9 101 RX0 "count" "I" RX11) ∈ gwL := gwt_2 30 (by decide +kernel) rfl
theorem zw_983 : (Cond.methodLink RX9 102 yX9_isUp) ∈ gwL := gwt_4 84 (by decide +kernel) rfl
theorem zw_985 : (Cond.instanceMethod yX9_isUp) ∈ gwL := gwt_4 86 (by decide +kernel) rfl
theorem zw_57 : (Cond.selects RX9 yX9_isUp yX9_isUp) ∈ gwL := gwp_4 (q := (yX9_isUp, 20)) 9 (by decide +kernel) rfl
theorem zw_986 : (.code yX9_isUp cX9_isUp 2 (some .boolean) : Cond) ∈ gwL := gwt_4 87 (by decide +kernel) rfl
theorem zw_987 : (Cond.methodLink RX9 106 yX9_isHeld) ∈ gwL := gwt_4 88 (by decide +kernel) rfl
theorem zw_834 : (Cond.methodLink RX10 32 yX10_runAllGroups) ∈ gwL := gwt_3 175 (by decide +kernel) rfl
theorem zw_335 : (Cond.fieldLinkNest RX10 35 RX1 "words" "[I" RX11) ∈ gwL := gwt_1 156 (by decide +kernel) rfl
theorem zw_838 : (Cond.methodLinkNest RX10 38 yX9_clear RX11) ∈ gwL := gwt_3 179 (by decide +kernel) rfl
theorem zw_840 : (Cond.instanceMethod yX9_clear) ∈ gwL := gwt_3 181 (by decide +kernel) rfl
theorem zw_32 : (Cond.selects RX9 yX9_clear yX9_clear) ∈ gwL := gwp_3 (q := (yX9_clear, 20)) 0 (by decide +kernel) rfl
theorem zw_841 : (.code yX9_clear cX9_clear 3 none : Cond) ∈ gwL := gwt_3 182 (by decide +kernel) rfl
theorem zw_656 : (Cond.fieldLink RX11 10 RX11 "reade\x72" "LGateGroup$Reader;") ∈ gwL := gwt_2 237 (by decide +kernel) rfl
theorem zw_265 : (Cond.fieldLinkNest RX11 78 RX7 "length" "I" RX11) ∈ gwL := gwt_1 86 (by decide +kernel) rfl
theorem zw_688 : (Cond.methodLinkNest RX11 82 yX7_append RX11) ∈ gwL := gwt_3 29 (by decide +kernel) rfl
theorem zw_690 : (Cond.instanceMethod yX7_append) ∈ gwL := gwt_3 31 (by decide +kernel) rfl
theorem zw_0 : (Cond.selects RX7 yX7_append yX7_append) ∈ gwL := gwp_1 (q := (yX7_append, 9)) 0 (by decide +kernel) rfl
theorem zw_691 : (.code yX7_append cX7_append 3 none : Cond) ∈ gwL := gwt_3 32 (by decide +kernel) rfl
theorem zw_658 : (Cond.fieldLink RX11 28 RX11 "netReade\x72" "LGateGroup$NetReader;") ∈ gwL := gwt_2 239 (by decide +kernel) rfl
theorem zw_700 : (Cond.methodLinkNest RX11 86 yX2_read RX11) ∈ gwL := gwt_3 41 (by decide +kernel) rfl
theorem zw_702 : (Cond.instanceMethod yX2_read) ∈ gwL := gwt_3 43 (by decide +kernel) rfl
theorem zw_1 : (Cond.selects RX2 yX2_read yX2_read) ∈ gwL := gwp_1 (q := (yX2_read, 2)) 1 (by decide +kernel) rfl
theorem zw_703 : (.code yX2_read cX2_read 2 (some .boolean) : Cond) ∈ gwL := gwt_3 44 (by decide +kernel) rfl
theorem zw_657 : (Cond.fieldLink RX11 19 RX11 "net" "LGateGroup$Net;") ∈ gwL := gwt_2 238 (by decide +kernel) rfl
theorem zw_392 : (Cond.fieldLinkNest RX11 90 RX2 "draft" "LGateGroup$Net;" RX11) ∈ gwL := gwt_1 213 (by decide +kernel) rfl
theorem zw_819 : (Cond.methodLinkNest RX11 93 yX1_copyFrom RX11) ∈ gwL := gwt_3 160 (by decide +kernel) rfl
theorem zw_821 : (Cond.instanceMethod yX1_copyFrom) ∈ gwL := gwt_3 162 (by decide +kernel) rfl
theorem zw_28 : (Cond.selects RX1 yX1_copyFrom yX1_copyFrom) ∈ gwL := gwp_2 (q := (yX1_copyFrom, 14)) 12 (by decide +kernel) rfl
theorem zw_822 : (.code yX1_copyFrom cX1_copyFrom 2 none : Cond) ∈ gwL := gwt_3 163 (by decide +kernel) rfl
theorem zw_305 : (Cond.fieldLinkNest RX11 97 RX1 "there" "Z" RX11) ∈ gwL := gwt_1 126 (by decide +kernel) rfl
theorem zw_662 : (Cond.fieldLink RX11 60 RX11 "past" "LGateGroup$Past;") ∈ gwL := gwt_3 3 (by decide +kernel) rfl
theorem zw_826 : (Cond.methodLinkNest RX11 101 yX4_forgetAll RX11) ∈ gwL := gwt_3 167 (by decide +kernel) rfl
theorem zw_828 : (Cond.instanceMethod yX4_forgetAll) ∈ gwL := gwt_3 169 (by decide +kernel) rfl
theorem zw_29 : (Cond.selects RX4 yX4_forgetAll yX4_forgetAll) ∈ gwL := gwp_2 (q := (yX4_forgetAll, 5)) 13 (by decide +kernel) rfl
theorem zw_829 : (.code yX4_forgetAll cX4_forgetAll 1 none : Cond) ∈ gwL := gwt_3 170 (by decide +kernel) rfl
theorem zw_193 : (Cond.initialized RX4) ∈ gwL := gwt_1 14 (by decide +kernel) rfl
theorem zw_661 : (Cond.fieldLink RX11 53 RX11 "works" "LGateGroup$Works;") ∈ gwL := gwt_3 2 (by decide +kernel) rfl
theorem zw_830 : (Cond.methodLinkNest RX11 104 yX10_begin RX11) ∈ gwL := gwt_3 171 (by decide +kernel) rfl
theorem zw_832 : (Cond.instanceMethod yX10_begin) ∈ gwL := gwt_3 173 (by decide +kernel) rfl
theorem zw_30 : (Cond.selects RX10 yX10_begin yX10_begin) ∈ gwL := gwp_2 (q := (yX10_begin, 5)) 14 (by decide +kernel) rfl
theorem zw_833 : (.code yX10_begin cX10_begin 1 none : Cond) ∈ gwL := gwt_3 174 (by decide +kernel) rfl
theorem zw_309 : (Cond.fieldLinkNest RX11 107 RX1 "counts" "[I" RX11) ∈ gwL := gwt_1 130 (by decide +kernel) rfl
theorem zw_659 : (Cond.fieldLink RX11 37 RX11 "planReade\x72" "LGateGroup$PlanReader;") ∈ gwL := gwt_3 0 (by decide +kernel) rfl
theorem zw_878 : (Cond.methodLinkNest RX11 111 yX6_read RX11) ∈ gwL := gwt_3 219 (by decide +kernel) rfl
theorem zw_880 : (Cond.instanceMethod yX6_read) ∈ gwL := gwt_3 221 (by decide +kernel) rfl
theorem zw_41 : (Cond.selects RX6 yX6_read yX6_read) ∈ gwL := gwp_3 (q := (yX6_read, 3)) 9 (by decide +kernel) rfl
theorem zw_881 : (.code yX6_read cX6_read 3 (some .boolean) : Cond) ∈ gwL := gwt_3 222 (by decide +kernel) rfl
theorem zw_660 : (Cond.fieldLink RX11 44 RX11 "now" "LGateGroup$State;") ∈ gwL := gwt_3 1 (by decide +kernel) rfl
theorem zw_916 : (Cond.methodLinkNest RX11 112 yX4_save RX11) ∈ gwL := gwt_4 17 (by decide +kernel) rfl
theorem zw_918 : (Cond.instanceMethod yX4_save) ∈ gwL := gwt_4 19 (by decide +kernel) rfl
theorem zw_48 : (Cond.selects RX4 yX4_save yX4_save) ∈ gwL := gwp_4 (q := (yX4_save, 5)) 0 (by decide +kernel) rfl
theorem zw_919 : (.code yX4_save cX4_save 2 none : Cond) ∈ gwL := gwt_4 20 (by decide +kernel) rfl
theorem zw_492 : (Cond.fieldLinkNest RX11 116 RX9 "plan" "LGateGroup$Plan;" RX11) ∈ gwL := gwt_2 73 (by decide +kernel) rfl
theorem zw_426 : (Cond.fieldLinkNest RX11 120 RX6 "draft" "LGateGroup$Plan;" RX11) ∈ gwL := gwt_2 7 (by decide +kernel) rfl
theorem zw_942 : (Cond.methodLinkNest RX11 122 yX5_copyFrom RX11) ∈ gwL := gwt_4 43 (by decide +kernel) rfl
theorem zw_461 : (Cond.fieldLinkNest RX11 127 RX9 "tick" "I" RX11) ∈ gwL := gwt_2 42 (by decide +kernel) rfl
theorem zw_943 : (Cond.methodLinkNest RX11 130 yX5_firstFrom RX11) ∈ gwL := gwt_4 44 (by decide +kernel) rfl
theorem zw_945 : (Cond.instanceMethod yX5_firstFrom) ∈ gwL := gwt_4 46 (by decide +kernel) rfl
theorem zw_53 : (Cond.selects RX5 yX5_firstFrom yX5_firstFrom) ∈ gwL := gwp_4 (q := (yX5_firstFrom, 2)) 5 (by decide +kernel) rfl
theorem zw_946 : (.code yX5_firstFrom cX5_firstFrom 3 (some .int) : Cond) ∈ gwL := gwt_4 47 (by decide +kernel) rfl
theorem zw_489 : (Cond.fieldLinkNest RX11 134 RX9 "next" "I" RX11) ∈ gwL := gwt_2 70 (by decide +kernel) rfl
theorem zw_413 : (Cond.fieldLinkNest RX11 137 RX5 "count" "I" RX11) ∈ gwL := gwt_1 234 (by decide +kernel) rfl
theorem zw_277 : (Cond.fieldLinkNest RX11 143 RX7 "place" "I" RX11) ∈ gwL := gwt_1 98 (by decide +kernel) rfl
theorem zw_275 : (Cond.fieldLinkNest RX11 140 RX7 "fault" "I" RX11) ∈ gwL := gwt_1 96 (by decide +kernel) rfl
theorem zw_959 : (Cond.methodLinkNest RX11 146 yX1_countMembers RX11) ∈ gwL := gwt_4 60 (by decide +kernel) rfl
theorem zw_961 : (Cond.instanceMethod yX1_countMembers) ∈ gwL := gwt_4 62 (by decide +kernel) rfl
theorem zw_55 : (Cond.selects RX1 yX1_countMembers yX1_countMembers) ∈ gwL := gwp_4 (q := (yX1_countMembers, 14)) 7 (by decide +kernel) rfl
theorem zw_962 : (.code yX1_countMembers cX1_countMembers 3 (some .int) : Cond) ∈ gwL := gwt_4 63 (by decide +kernel) rfl
theorem zw_343 : (Cond.fieldLinkNest RX11 150 RX1 "tracks" "I" RX11) ∈ gwL := gwt_1 164 (by decide +kernel) rfl
theorem zw_466 : (Cond.fieldLinkNest RX11 153 RX9 "ups" "I" RX11) ∈ gwL := gwt_2 47 (by decide +kernel) rfl
theorem zw_470 : (Cond.fieldLinkNest RX11 156 RX9 "cuts" "I" RX11) ∈ gwL := gwt_2 51 (by decide +kernel) rfl
theorem zw_472 : (Cond.fieldLinkNest RX11 159 RX9 "part" "I" RX11) ∈ gwL := gwt_2 53 (by decide +kernel) rfl
theorem zw_476 : (Cond.fieldLinkNest RX11 162 RX9 "chance" "I" RX11) ∈ gwL := gwt_2 57 (by decide +kernel) rfl
theorem zw_479 : (Cond.fieldLinkNest RX11 165 RX9 "x" "I" RX11) ∈ gwL := gwt_2 60 (by decide +kernel) rfl
theorem zw_495 : (Cond.fieldLinkNest RX11 168 RX9 "changes" "LGateGroup$Changes;" RX11) ∈ gwL := gwt_2 76 (by decide +kernel) rfl
theorem zw_450 : (Cond.fieldLinkNest RX11 172 RX0 "count" "I" RX11) ∈ gwL := gwt_2 31 (by decide +kernel) rfl
theorem zw_602 : (Cond.fieldLinkNest RX11 175 RX4 "count" "I" RX11) ∈ gwL := gwt_2 183 (by decide +kernel) rfl
theorem zw_482 : (Cond.fieldLinkNest RX11 176 RX9 "sent" "I" RX11) ∈ gwL := gwt_2 63 (by decide +kernel) rfl
theorem zw_486 : (Cond.fieldLinkNest RX11 179 RX9 "lost" "I" RX11) ∈ gwL := gwt_2 67 (by decide +kernel) rfl
theorem zw_973 : (Cond.methodLinkNest RX11 182 yX1_isGroup RX11) ∈ gwL := gwt_4 74 (by decide +kernel) rfl
theorem zw_316 : (Cond.fieldLinkNest RX11 186 RX1 "every" "[I" RX11) ∈ gwL := gwt_1 137 (by decide +kernel) rfl
theorem zw_319 : (Cond.fieldLinkNest RX11 189 RX1 "delay" "[I" RX11) ∈ gwL := gwt_1 140 (by decide +kernel) rfl
theorem zw_323 : (Cond.fieldLinkNest RX11 192 RX1 "keeps" "[I" RX11) ∈ gwL := gwt_1 144 (by decide +kernel) rfl
theorem zw_328 : (Cond.fieldLinkNest RX11 195 RX1 "slots" "[I" RX11) ∈ gwL := gwt_1 149 (by decide +kernel) rfl
theorem zw_333 : (Cond.fieldLinkNest RX11 198 RX1 "members" "[I" RX11) ∈ gwL := gwt_1 154 (by decide +kernel) rfl
theorem zw_502 : (Cond.fieldLinkNest RX11 201 RX9 "gaps" "[I" RX11) ∈ gwL := gwt_2 83 (by decide +kernel) rfl
theorem zw_505 : (Cond.fieldLinkNest RX11 204 RX9 "doubled" "[I" RX11) ∈ gwL := gwt_2 86 (by decide +kernel) rfl
theorem zw_508 : (Cond.fieldLinkNest RX11 207 RX9 "takes" "[I" RX11) ∈ gwL := gwt_2 89 (by decide +kernel) rfl
theorem zw_499 : (Cond.fieldLinkNest RX11 210 RX9 "held" "[I" RX11) ∈ gwL := gwt_2 80 (by decide +kernel) rfl
theorem zw_978 : (Cond.methodLinkNest RX11 213 yX1_isMember RX11) ∈ gwL := gwt_4 79 (by decide +kernel) rfl
theorem zw_513 : (Cond.fieldLinkNest RX11 217 RX9 "told" "[I" RX11) ∈ gwL := gwt_2 94 (by decide +kernel) rfl
theorem zw_516 : (Cond.fieldLinkNest RX11 220 RX9 "weight" "[I" RX11) ∈ gwL := gwt_2 97 (by decide +kernel) rfl
theorem zw_340 : (Cond.fieldLinkNest RX11 223 RX1 "shares" "[I" RX11) ∈ gwL := gwt_1 161 (by decide +kernel) rfl
theorem zw_979 : (Cond.methodLinkNest RX11 226 yX9_howIs RX11) ∈ gwL := gwt_4 80 (by decide +kernel) rfl
theorem zw_981 : (Cond.instanceMethod yX9_howIs) ∈ gwL := gwt_4 82 (by decide +kernel) rfl
theorem zw_56 : (Cond.selects RX9 yX9_howIs yX9_howIs) ∈ gwL := gwp_4 (q := (yX9_howIs, 20)) 8 (by decide +kernel) rfl
theorem zw_982 : (.code yX9_howIs cX9_howIs 3 (some .int) : Cond) ∈ gwL := gwt_4 83 (by decide +kernel) rfl
theorem zw_522 : (Cond.fieldLinkNest RX11 230 RX9 "clock" "[I" RX11) ∈ gwL := gwt_2 103 (by decide +kernel) rfl
theorem zw_519 : (Cond.fieldLinkNest RX11 233 RX9 "skew" "[I" RX11) ∈ gwL := gwt_2 100 (by decide +kernel) rfl
theorem zw_991 : (Cond.methodLinkNest RX11 236 yX1_patience RX11) ∈ gwL := gwt_4 92 (by decide +kernel) rfl
theorem zw_525 : (Cond.fieldLinkNest RX11 239 RX9 "wish" "[I" RX11) ∈ gwL := gwt_2 106 (by decide +kernel) rfl
theorem zw_996 : (Cond.methodLinkNest RX11 242 yX1_isThere RX11) ∈ gwL := gwt_4 97 (by decide +kernel) rfl
theorem zw_998 : (Cond.instanceMethod yX1_isThere) ∈ gwL := gwt_4 99 (by decide +kernel) rfl
theorem zw_59 : (Cond.selects RX1 yX1_isThere yX1_isThere) ∈ gwL := gwp_4 (q := (yX1_isThere, 14)) 11 (by decide +kernel) rfl
theorem zw_999 : (.code yX1_isThere cX1_isThere 3 (some .boolean) : Cond) ∈ gwL := gwt_4 100 (by decide +kernel) rfl
theorem zw_312 : (Cond.fieldLinkNest RX11 245 RX1 "names" "[I" RX11) ∈ gwL := gwt_1 133 (by decide +kernel) rfl
theorem zw_346 : (Cond.fieldLinkNest RX11 248 RX1 "trackMembe\x72" "[I" RX11) ∈ gwL := gwt_1 167 (by decide +kernel) rfl
theorem zw_349 : (Cond.fieldLinkNest RX11 251 RX1 "trackLink" "[I" RX11) ∈ gwL := gwt_1 170 (by decide +kernel) rfl
theorem zw_352 : (Cond.fieldLinkNest RX11 254 RX1 "trackLess" "[I" RX11) ∈ gwL := gwt_1 173 (by decide +kernel) rfl
theorem zw_416 : (Cond.fieldLinkNest RX11 257 RX5 "rows" "[I" RX11) ∈ gwL := gwt_1 237 (by decide +kernel) rfl
theorem zw_1012 : (Cond.methodLinkNest RX11 260 yX10_run RX11) ∈ gwL := gwt_4 113 (by decide +kernel) rfl
theorem zw_1095 : (Cond.methodLinkNest RX11 263 yX9_isUp RX11) ∈ gwL := gwt_4 196 (by decide +kernel) rfl
theorem zw_1096 : (Cond.methodLinkNest RX11 266 yX10_raise RX11) ∈ gwL := gwt_4 197 (by decide +kernel) rfl
theorem zw_1101 : (Cond.methodLinkNest RX11 269 yX10_lower RX11) ∈ gwL := gwt_4 202 (by decide +kernel) rfl
theorem zw_1106 : (Cond.methodLinkNest RX11 273 yX9_isCut RX11) ∈ gwL := gwt_4 207 (by decide +kernel) rfl
theorem zw_1108 : (Cond.instanceMethod yX9_isCut) ∈ gwL := gwt_4 209 (by decide +kernel) rfl
theorem zw_77 : (Cond.selects RX9 yX9_isCut yX9_isCut) ∈ gwL := gwp_5 (q := (yX9_isCut, 20)) 13 (by decide +kernel) rfl
theorem zw_1109 : (.code yX9_isCut cX9_isCut 2 (some .boolean) : Cond) ∈ gwL := gwt_4 210 (by decide +kernel) rfl
theorem zw_1110 : (Cond.methodLinkNest RX11 276 yX10_setCuts RX11) ∈ gwL := gwt_4 211 (by decide +kernel) rfl
theorem zw_1115 : (Cond.methodLinkNest RX11 279 yX1_areGates RX11) ∈ gwL := gwt_4 216 (by decide +kernel) rfl
theorem zw_1117 : (Cond.instanceMethod yX1_areGates) ∈ gwL := gwt_4 218 (by decide +kernel) rfl
theorem zw_78 : (Cond.selects RX1 yX1_areGates yX1_areGates) ∈ gwL := gwp_5 (q := (yX1_areGates, 14)) 14 (by decide +kernel) rfl
theorem zw_1118 : (.code yX1_areGates cX1_areGates 2 (some .boolean) : Cond) ∈ gwL := gwt_4 219 (by decide +kernel) rfl
theorem zw_1123 : (Cond.methodLinkNest RX11 282 yX10_tell RX11) ∈ gwL := gwt_4 224 (by decide +kernel) rfl
theorem zw_1132 : (Cond.methodLink RX11 286 yX11_isPair) ∈ gwL := gwt_4 233 (by decide +kernel) rfl
theorem zw_1134 : (Cond.instanceMethod yX11_isPair) ∈ gwL := gwt_4 235 (by decide +kernel) rfl
theorem zw_79 : (Cond.selects RX11 yX11_isPair yX11_isPair) ∈ gwL := gwp_5 (q := (yX11_isPair, 9)) 15 (by decide +kernel) rfl
theorem zw_1135 : (.code yX11_isPair cX11_isPair 3 (some .boolean) : Cond) ∈ gwL := gwt_4 236 (by decide +kernel) rfl
theorem zw_180 : (Cond.initialized RX11) ∈ gwL := gwt_1 1 (by decide +kernel) rfl
theorem zw_1136 : (Cond.methodLinkNest RX11 289 yX9_holderBeside RX11) ∈ gwL := gwt_4 237 (by decide +kernel) rfl
theorem zw_1149 : (Cond.methodLinkNest RX11 292 yX9_isDouble RX11) ∈ gwL := gwt_5 10 (by decide +kernel) rfl
theorem zw_664 : (Cond.fieldLink RX11 74 RX11 "spread" "LGateGroup$Spread;") ∈ gwL := gwt_3 5 (by decide +kernel) rfl
theorem zw_1162 : (Cond.methodLinkNest RX11 295 yX8_lay RX11) ∈ gwL := gwt_5 23 (by decide +kernel) rfl
theorem zw_1164 : (Cond.instanceMethod yX8_lay) ∈ gwL := gwt_5 25 (by decide +kernel) rfl
theorem zw_82 : (Cond.selects RX8 yX8_lay yX8_lay) ∈ gwL := gwp_6 (q := (yX8_lay, 4)) 2 (by decide +kernel) rfl
theorem zw_1165 : (.code yX8_lay cX8_lay 6 none : Cond) ∈ gwL := gwt_5 26 (by decide +kernel) rfl
theorem zw_1171 : (Cond.methodLinkNest RX11 299 yX8_ownerOf RX11) ∈ gwL := gwt_5 32 (by decide +kernel) rfl
theorem zw_1173 : (Cond.instanceMethod yX8_ownerOf) ∈ gwL := gwt_5 34 (by decide +kernel) rfl
theorem zw_84 : (Cond.selects RX8 yX8_ownerOf yX8_ownerOf) ∈ gwL := gwp_6 (q := (yX8_ownerOf, 4)) 4 (by decide +kernel) rfl
theorem zw_1174 : (.code yX8_ownerOf cX8_ownerOf 2 (some .int) : Cond) ∈ gwL := gwt_5 35 (by decide +kernel) rfl
theorem zw_646 : (Cond.fieldLinkNest RX11 302 RX8 "got" "[I" RX11) ∈ gwL := gwt_2 227 (by decide +kernel) rfl
theorem zw_1187 : (Cond.methodLinkNest RX11 305 yX8_countHosts RX11) ∈ gwL := gwt_5 48 (by decide +kernel) rfl
theorem zw_1189 : (Cond.instanceMethod yX8_countHosts) ∈ gwL := gwt_5 50 (by decide +kernel) rfl
theorem zw_85 : (Cond.selects RX8 yX8_countHosts yX8_countHosts) ∈ gwL := gwp_6 (q := (yX8_countHosts, 4)) 5 (by decide +kernel) rfl
theorem zw_1190 : (.code yX8_countHosts cX8_countHosts 7 (some .int) : Cond) ∈ gwL := gwt_5 51 (by decide +kernel) rfl
theorem zw_663 : (Cond.fieldLink RX11 67 RX11 "pape\x72" "LGateGroup$Paper;") ∈ gwL := gwt_3 4 (by decide +kernel) rfl
theorem zw_1199 : (Cond.methodLinkNest RX11 312 yX3_heldIn RX11) ∈ gwL := gwt_5 60 (by decide +kernel) rfl
theorem zw_1201 : (Cond.instanceMethod yX3_heldIn) ∈ gwL := gwt_5 62 (by decide +kernel) rfl
theorem zw_87 : (Cond.selects RX3 yX3_heldIn yX3_heldIn) ∈ gwL := gwp_6 (q := (yX3_heldIn, 3)) 7 (by decide +kernel) rfl
theorem zw_1202 : (.code yX3_heldIn cX3_heldIn 3 (some .int) : Cond) ∈ gwL := gwt_5 63 (by decide +kernel) rfl
theorem zw_1195 : (Cond.methodLink RX11 309 yX11_isWithin) ∈ gwL := gwt_5 56 (by decide +kernel) rfl
theorem zw_1197 : (Cond.instanceMethod yX11_isWithin) ∈ gwL := gwt_5 58 (by decide +kernel) rfl
theorem zw_86 : (Cond.selects RX11 yX11_isWithin yX11_isWithin) ∈ gwL := gwp_6 (q := (yX11_isWithin, 9)) 6 (by decide +kernel) rfl
theorem zw_1198 : (.code yX11_isWithin cX11_isWithin 2 (some .boolean) : Cond) ∈ gwL := gwt_5 59 (by decide +kernel) rfl
theorem zw_1218 : (Cond.methodLinkNest RX11 315 yX3_takenBehind RX11) ∈ gwL := gwt_5 79 (by decide +kernel) rfl
theorem zw_1220 : (Cond.instanceMethod yX3_takenBehind) ∈ gwL := gwt_5 81 (by decide +kernel) rfl
theorem zw_90 : (Cond.selects RX3 yX3_takenBehind yX3_takenBehind) ∈ gwL := gwp_6 (q := (yX3_takenBehind, 3)) 10 (by decide +kernel) rfl
theorem zw_1221 : (.code yX3_takenBehind cX3_takenBehind 5 (some .int) : Cond) ∈ gwL := gwt_5 82 (by decide +kernel) rfl
theorem zw_1236 : (Cond.methodLinkNest RX11 318 yX3_otherHolder RX11) ∈ gwL := gwt_5 97 (by decide +kernel) rfl
theorem zw_1245 : (Cond.methodLinkNest RX11 321 yX3_calmFrom RX11) ∈ gwL := gwt_5 106 (by decide +kernel) rfl
theorem zw_1247 : (Cond.instanceMethod yX3_calmFrom) ∈ gwL := gwt_5 108 (by decide +kernel) rfl
theorem zw_93 : (Cond.selects RX3 yX3_calmFrom yX3_calmFrom) ∈ gwL := gwp_6 (q := (yX3_calmFrom, 3)) 13 (by decide +kernel) rfl
theorem zw_1248 : (.code yX3_calmFrom cX3_calmFrom 4 (some .int) : Cond) ∈ gwL := gwt_5 109 (by decide +kernel) rfl
theorem zw_1257 : (Cond.methodLinkNest RX11 324 yX3_leastWord RX11) ∈ gwL := gwt_5 118 (by decide +kernel) rfl
theorem zw_1259 : (Cond.instanceMethod yX3_leastWord) ∈ gwL := gwt_5 120 (by decide +kernel) rfl
theorem zw_95 : (Cond.selects RX3 yX3_leastWord yX3_leastWord) ∈ gwL := gwp_6 (q := (yX3_leastWord, 3)) 15 (by decide +kernel) rfl
theorem zw_1260 : (.code yX3_leastWord cX3_leastWord 4 (some .int) : Cond) ∈ gwL := gwt_5 121 (by decide +kernel) rfl
theorem zw_1267 : (Cond.methodLink RX11 327 yX11_isSpan) ∈ gwL := gwt_5 128 (by decide +kernel) rfl
theorem zw_1269 : (Cond.instanceMethod yX11_isSpan) ∈ gwL := gwt_5 130 (by decide +kernel) rfl
theorem zw_96 : (Cond.selects RX11 yX11_isSpan yX11_isSpan) ∈ gwL := gwp_7 (q := (yX11_isSpan, 9)) 0 (by decide +kernel) rfl
theorem zw_1270 : (.code yX11_isSpan cX11_isSpan 2 (some .boolean) : Cond) ∈ gwL := gwt_5 131 (by decide +kernel) rfl
theorem zw_1271 : (Cond.methodLinkNest RX11 330 yX3_takesIn RX11) ∈ gwL := gwt_5 132 (by decide +kernel) rfl
theorem zw_1273 : (Cond.instanceMethod yX3_takesIn) ∈ gwL := gwt_5 134 (by decide +kernel) rfl
theorem zw_97 : (Cond.selects RX3 yX3_takesIn yX3_takesIn) ∈ gwL := gwp_7 (q := (yX3_takesIn, 3)) 1 (by decide +kernel) rfl
theorem zw_1274 : (.code yX3_takesIn cX3_takesIn 3 (some .int) : Cond) ∈ gwL := gwt_5 135 (by decide +kernel) rfl
theorem zw_1279 : (Cond.methodLinkNest RX11 333 yX3_holderWithCuts RX11) ∈ gwL := gwt_5 140 (by decide +kernel) rfl
theorem zw_1281 : (Cond.instanceMethod yX3_holderWithCuts) ∈ gwL := gwt_5 142 (by decide +kernel) rfl
theorem zw_98 : (Cond.selects RX3 yX3_holderWithCuts yX3_holderWithCuts) ∈ gwL := gwp_7 (q := (yX3_holderWithCuts, 3)) 2 (by decide +kernel) rfl
theorem zw_1282 : (.code yX3_holderWithCuts cX3_holderWithCuts 4 (some .int) : Cond) ∈ gwL := gwt_5 143 (by decide +kernel) rfl
theorem zw_1289 : (Cond.methodLinkNest RX11 336 yX3_sentIn RX11) ∈ gwL := gwt_5 150 (by decide +kernel) rfl
theorem zw_1291 : (Cond.instanceMethod yX3_sentIn) ∈ gwL := gwt_5 152 (by decide +kernel) rfl
theorem zw_99 : (Cond.selects RX3 yX3_sentIn yX3_sentIn) ∈ gwL := gwp_7 (q := (yX3_sentIn, 3)) 3 (by decide +kernel) rfl
theorem zw_1292 : (.code yX3_sentIn cX3_sentIn 2 (some .int) : Cond) ∈ gwL := gwt_5 153 (by decide +kernel) rfl
theorem zw_1297 : (Cond.methodLinkNest RX11 339 yX3_ticksHeld RX11) ∈ gwL := gwt_5 158 (by decide +kernel) rfl
theorem zw_1299 : (Cond.instanceMethod yX3_ticksHeld) ∈ gwL := gwt_5 160 (by decide +kernel) rfl
theorem zw_100 : (Cond.selects RX3 yX3_ticksHeld yX3_ticksHeld) ∈ gwL := gwp_7 (q := (yX3_ticksHeld, 3)) 4 (by decide +kernel) rfl
theorem zw_1300 : (.code yX3_ticksHeld cX3_ticksHeld 7 (some .int) : Cond) ∈ gwL := gwt_5 161 (by decide +kernel) rfl
theorem zw_1305 : (Cond.methodLinkNest RX11 342 yX3_regainedBehind RX11) ∈ gwL := gwt_5 166 (by decide +kernel) rfl
theorem zw_1307 : (Cond.instanceMethod yX3_regainedBehind) ∈ gwL := gwt_5 168 (by decide +kernel) rfl
theorem zw_101 : (Cond.selects RX3 yX3_regainedBehind yX3_regainedBehind) ∈ gwL := gwp_7 (q := (yX3_regainedBehind, 3)) 5 (by decide +kernel) rfl
theorem zw_1308 : (.code yX3_regainedBehind cX3_regainedBehind 5 (some .int) : Cond) ∈ gwL := gwt_5 169 (by decide +kernel) rfl
theorem zw_1314 : (Cond.methodLinkNest RX11 345 yX1_areLinks RX11) ∈ gwL := gwt_5 175 (by decide +kernel) rfl
theorem zw_1316 : (Cond.instanceMethod yX1_areLinks) ∈ gwL := gwt_5 177 (by decide +kernel) rfl
theorem zw_102 : (Cond.selects RX1 yX1_areLinks yX1_areLinks) ∈ gwL := gwp_7 (q := (yX1_areLinks, 14)) 6 (by decide +kernel) rfl
theorem zw_1317 : (.code yX1_areLinks cX1_areLinks 2 (some .boolean) : Cond) ∈ gwL := gwt_5 178 (by decide +kernel) rfl
theorem zw_1322 : (Cond.methodLink RX11 348 yJ6_bitCount_0f7a4) ∈ gwL := gwt_5 183 (by decide +kernel) rfl
theorem zw_1323 : (Cond.methodLinkNest RX11 353 yX9_strongest RX11) ∈ gwL := gwt_5 184 (by decide +kernel) rfl
theorem zw_1328 : (Cond.methodLinkNest RX11 356 yX0_read RX11) ∈ gwL := gwt_5 189 (by decide +kernel) rfl
theorem zw_1330 : (Cond.instanceMethod yX0_read) ∈ gwL := gwt_5 191 (by decide +kernel) rfl
theorem zw_103 : (Cond.selects RX0 yX0_read yX0_read) ∈ gwL := gwp_7 (q := (yX0_read, 3)) 7 (by decide +kernel) rfl
theorem zw_1331 : (.code yX0_read cX0_read 4 (some .int) : Cond) ∈ gwL := gwt_5 192 (by decide +kernel) rfl
theorem zw_1336 : (Cond.methodLinkNest RX11 358 yX4_restore RX11) ∈ gwL := gwt_5 197 (by decide +kernel) rfl
theorem zw_1338 : (Cond.instanceMethod yX4_restore) ∈ gwL := gwt_5 199 (by decide +kernel) rfl
theorem zw_104 : (Cond.selects RX4 yX4_restore yX4_restore) ∈ gwL := gwp_7 (q := (yX4_restore, 5)) 8 (by decide +kernel) rfl
theorem zw_1339 : (.code yX4_restore cX4_restore 2 (some .boolean) : Cond) ∈ gwL := gwt_5 200 (by decide +kernel) rfl
theorem zw_1344 : (Cond.methodLinkNest RX11 362 yX4_keepImage RX11) ∈ gwL := gwt_5 205 (by decide +kernel) rfl
theorem zw_1346 : (Cond.instanceMethod yX4_keepImage) ∈ gwL := gwt_5 207 (by decide +kernel) rfl
theorem zw_105 : (Cond.selects RX4 yX4_keepImage yX4_keepImage) ∈ gwL := gwp_7 (q := (yX4_keepImage, 5)) 9 (by decide +kernel) rfl
theorem zw_1347 : (.code yX4_keepImage cX4_keepImage 3 none : Cond) ∈ gwL := gwt_5 208 (by decide +kernel) rfl
theorem zw_1352 : (Cond.methodLinkNest RX11 366 yX4_takeImage RX11) ∈ gwL := gwt_5 213 (by decide +kernel) rfl
theorem zw_1354 : (Cond.instanceMethod yX4_takeImage) ∈ gwL := gwt_5 215 (by decide +kernel) rfl
theorem zw_106 : (Cond.selects RX4 yX4_takeImage yX4_takeImage) ∈ gwL := gwp_7 (q := (yX4_takeImage, 5)) 10 (by decide +kernel) rfl
theorem zw_1355 : (.code yX4_takeImage cX4_takeImage 3 (some .boolean) : Cond) ∈ gwL := gwt_5 216 (by decide +kernel) rfl
theorem zw_1363 : (Cond.fieldLink RX12 7 RX12 "tape" "[B") ∈ gwL := gwt_5 224 (by decide +kernel) rfl
theorem zw_1364 : (Cond.fieldLink RX12 49 RX12 "taped" "I") ∈ gwL := gwt_5 225 (by decide +kernel) rfl
theorem zw_1362 : (Cond.fieldLink RX12 46 RX12 "thrown" "I") ∈ gwL := gwt_5 223 (by decide +kernel) rfl
theorem zw_1449 : (Cond.methodLink RX12 52 yX12_puts) ∈ gwL := gwt_6 70 (by decide +kernel) rfl
theorem zw_1451 : (Cond.instanceMethod yX12_puts) ∈ gwL := gwt_6 72 (by decide +kernel) rfl
theorem zw_107 : (Cond.selects RX12 yX12_puts yX12_puts) ∈ gwL := gwp_7 (q := (yX12_puts, 27)) 11 (by decide +kernel) rfl
theorem zw_1452 : (.code yX12_puts cX12_puts 3 none : Cond) ∈ gwL := gwt_6 73 (by decide +kernel) rfl
theorem zw_196 : (Cond.initialized RX12) ∈ gwL := gwt_1 17 (by decide +kernel) rfl
theorem zw_1457 : (Cond.methodLink RX12 56 yX12_isIn) ∈ gwL := gwt_6 78 (by decide +kernel) rfl
theorem zw_1458 : (Cond.static yX12_isIn) ∈ gwL := gwt_6 79 (by decide +kernel) rfl
theorem zw_1459 : (.code yX12_isIn cX12_isIn 6 (some .boolean) : Cond) ∈ gwL := gwt_6 80 (by decide +kernel) rfl
theorem zw_1484 : (Cond.constant RX12 60 (231045)) ∈ gwL := gwt_6 105 (by decide +kernel) rfl
theorem zw_1502 : (Cond.constant RX12 70 (21562475)) ∈ gwL := gwt_6 123 (by decide +kernel) rfl
theorem zw_1543 : (Cond.constant RX12 71 (398963)) ∈ gwL := gwt_6 164 (by decide +kernel) rfl
theorem zw_1544 : (Cond.constant RX12 72 (147182)) ∈ gwL := gwt_6 165 (by decide +kernel) rfl
theorem zw_1545 : (Cond.constant RX12 73 (431556)) ∈ gwL := gwt_6 166 (by decide +kernel) rfl
theorem zw_1546 : (Cond.constant RX12 74 (20459828)) ∈ gwL := gwt_6 167 (by decide +kernel) rfl
theorem zw_1547 : (Cond.constant RX12 75 (267308)) ∈ gwL := gwt_6 168 (by decide +kernel) rfl
theorem zw_1499 : (Cond.constant RX12 61 (402891)) ∈ gwL := gwt_6 120 (by decide +kernel) rfl
theorem zw_1500 : (Cond.constant RX12 62 (7945904)) ∈ gwL := gwt_6 121 (by decide +kernel) rfl
theorem zw_1537 : (Cond.constant RX12 63 (5969497)) ∈ gwL := gwt_6 158 (by decide +kernel) rfl
theorem zw_1538 : (Cond.constant RX12 64 (4370489)) ∈ gwL := gwt_6 159 (by decide +kernel) rfl
theorem zw_1539 : (Cond.constant RX12 65 (11703827)) ∈ gwL := gwt_6 160 (by decide +kernel) rfl
theorem zw_1540 : (Cond.constant RX12 66 (20332179)) ∈ gwL := gwt_6 161 (by decide +kernel) rfl
theorem zw_1501 : (Cond.constant RX12 67 (441878706)) ∈ gwL := gwt_6 122 (by decide +kernel) rfl
theorem zw_1541 : (Cond.constant RX12 68 (769604)) ∈ gwL := gwt_6 162 (by decide +kernel) rfl
theorem zw_1542 : (Cond.constant RX12 69 (20186693)) ∈ gwL := gwt_6 163 (by decide +kernel) rfl
theorem zw_1365 : (Cond.fieldLink RX12 76 RX12 "size" "I") ∈ gwL := gwt_5 226 (by decide +kernel) rfl
theorem zw_1366 : (Cond.fieldLink RX12 79 RX12 "at" "I") ∈ gwL := gwt_5 227 (by decide +kernel) rfl
theorem zw_1367 : (Cond.fieldLink RX12 82 RX12 "ended" "I") ∈ gwL := gwt_5 228 (by decide +kernel) rfl
theorem zw_1368 : (Cond.fieldLink RX12 85 RX12 "bad" "I") ∈ gwL := gwt_5 229 (by decide +kernel) rfl
theorem zw_1369 : (Cond.fieldLink RX12 88 RX12 "badPlace" "I") ∈ gwL := gwt_5 230 (by decide +kernel) rfl
theorem zw_1370 : (Cond.fieldLink RX12 91 RX12 "faultKind" "I") ∈ gwL := gwt_5 231 (by decide +kernel) rfl
theorem zw_1371 : (Cond.fieldLink RX12 13 RX12 "faultPlace" "I") ∈ gwL := gwt_5 232 (by decide +kernel) rfl
theorem zw_1497 : (Cond.constantLong RX12 94 (97)) ∈ gwL := gwt_6 118 (by decide +kernel) rfl
theorem zw_1498 : (Cond.constantLong RX12 96 (122)) ∈ gwL := gwt_6 119 (by decide +kernel) rfl
theorem zw_1567 : (Cond.constantLong RX12 98 (48)) ∈ gwL := gwt_6 188 (by decide +kernel) rfl
theorem zw_1568 : (Cond.constantLong RX12 100 (57)) ∈ gwL := gwt_6 189 (by decide +kernel) rfl
theorem zw_1476 : (Cond.methodLink RX12 102 yX12_next) ∈ gwL := gwt_6 97 (by decide +kernel) rfl
theorem zw_1478 : (Cond.instanceMethod yX12_next) ∈ gwL := gwt_6 99 (by decide +kernel) rfl
theorem zw_111 : (Cond.selects RX12 yX12_next yX12_next) ∈ gwL := gwp_7 (q := (yX12_next, 27)) 15 (by decide +kernel) rfl
theorem zw_1479 : (.code yX12_next cX12_next 1 (some .int) : Cond) ∈ gwL := gwt_6 100 (by decide +kernel) rfl
theorem zw_1503 : (Cond.methodLink RX12 106 yX12_fail) ∈ gwL := gwt_6 124 (by decide +kernel) rfl
theorem zw_1505 : (Cond.instanceMethod yX12_fail) ∈ gwL := gwt_6 126 (by decide +kernel) rfl
theorem zw_116 : (Cond.selects RX12 yX12_fail yX12_fail) ∈ gwL := gwp_8 (q := (yX12_fail, 27)) 4 (by decide +kernel) rfl
theorem zw_1506 : (.code yX12_fail cX12_fail 3 none : Cond) ∈ gwL := gwt_6 127 (by decide +kernel) rfl
theorem zw_1468 : (Cond.methodLink RX12 110 yX12_isFine) ∈ gwL := gwt_6 89 (by decide +kernel) rfl
theorem zw_1470 : (Cond.instanceMethod yX12_isFine) ∈ gwL := gwt_6 91 (by decide +kernel) rfl
theorem zw_109 : (Cond.selects RX12 yX12_isFine yX12_isFine) ∈ gwL := gwp_7 (q := (yX12_isFine, 27)) 13 (by decide +kernel) rfl
theorem zw_1471 : (.code yX12_isFine cX12_isFine 1 (some .boolean) : Cond) ∈ gwL := gwt_6 92 (by decide +kernel) rfl
theorem zw_1472 : (Cond.methodLink RX12 114 yX12_isOver) ∈ gwL := gwt_6 93 (by decide +kernel) rfl
theorem zw_1474 : (Cond.instanceMethod yX12_isOver) ∈ gwL := gwt_6 95 (by decide +kernel) rfl
theorem zw_110 : (Cond.selects RX12 yX12_isOver yX12_isOver) ∈ gwL := gwp_7 (q := (yX12_isOver, 27)) 14 (by decide +kernel) rfl
theorem zw_1475 : (.code yX12_isOver cX12_isOver 1 (some .boolean) : Cond) ∈ gwL := gwt_6 96 (by decide +kernel) rfl
theorem zw_1602 : (Cond.methodLink RX12 117 yX12_takesSign) ∈ gwL := gwt_6 223 (by decide +kernel) rfl
theorem zw_1604 : (Cond.instanceMethod yX12_takesSign) ∈ gwL := gwt_6 225 (by decide +kernel) rfl
theorem zw_133 : (Cond.selects RX12 yX12_takesSign yX12_takesSign) ∈ gwL := gwp_9 (q := (yX12_takesSign, 27)) 5 (by decide +kernel) rfl
theorem zw_1605 : (.code yX12_takesSign cX12_takesSign 2 (some .boolean) : Cond) ∈ gwL := gwt_6 226 (by decide +kernel) rfl
theorem zw_1511 : (Cond.methodLink RX12 121 yX12_unlike) ∈ gwL := gwt_6 132 (by decide +kernel) rfl
theorem zw_1513 : (Cond.instanceMethod yX12_unlike) ∈ gwL := gwt_6 134 (by decide +kernel) rfl
theorem zw_118 : (Cond.selects RX12 yX12_unlike yX12_unlike) ∈ gwL := gwp_8 (q := (yX12_unlike, 27)) 6 (by decide +kernel) rfl
theorem zw_1514 : (.code yX12_unlike cX12_unlike 1 none : Cond) ∈ gwL := gwt_6 135 (by decide +kernel) rfl
theorem zw_1373 : (Cond.fieldLink RX12 124 RX12 "letters" "I") ∈ gwL := gwt_5 234 (by decide +kernel) rfl
theorem zw_1372 : (Cond.fieldLink RX12 127 RX12 "spelt" "I") ∈ gwL := gwt_5 233 (by decide +kernel) rfl
theorem zw_1493 : (Cond.methodLink RX12 130 yX12_isLetter) ∈ gwL := gwt_6 114 (by decide +kernel) rfl
theorem zw_1495 : (Cond.instanceMethod yX12_isLetter) ∈ gwL := gwt_6 116 (by decide +kernel) rfl
theorem zw_115 : (Cond.selects RX12 yX12_isLetter yX12_isLetter) ∈ gwL := gwp_8 (q := (yX12_isLetter, 27)) 3 (by decide +kernel) rfl
theorem zw_1496 : (.code yX12_isLetter cX12_isLetter 2 (some .boolean) : Cond) ∈ gwL := gwt_6 117 (by decide +kernel) rfl
theorem zw_1489 : (Cond.methodLink RX12 133 yX12_seesWord) ∈ gwL := gwt_6 110 (by decide +kernel) rfl
theorem zw_1491 : (Cond.instanceMethod yX12_seesWord) ∈ gwL := gwt_6 112 (by decide +kernel) rfl
theorem zw_114 : (Cond.selects RX12 yX12_seesWord yX12_seesWord) ∈ gwL := gwp_8 (q := (yX12_seesWord, 27)) 2 (by decide +kernel) rfl
theorem zw_1492 : (.code yX12_seesWord cX12_seesWord 2 (some .boolean) : Cond) ∈ gwL := gwt_6 113 (by decide +kernel) rfl
theorem zw_1485 : (Cond.methodLink RX12 136 yX12_isWord) ∈ gwL := gwt_6 106 (by decide +kernel) rfl
theorem zw_1487 : (Cond.instanceMethod yX12_isWord) ∈ gwL := gwt_6 108 (by decide +kernel) rfl
theorem zw_113 : (Cond.selects RX12 yX12_isWord yX12_isWord) ∈ gwL := gwp_8 (q := (yX12_isWord, 27)) 1 (by decide +kernel) rfl
theorem zw_1488 : (.code yX12_isWord cX12_isWord 2 (some .boolean) : Cond) ∈ gwL := gwt_6 109 (by decide +kernel) rfl
theorem zw_1526 : (Cond.methodLink RX12 139 yX12_pass) ∈ gwL := gwt_6 147 (by decide +kernel) rfl
theorem zw_1528 : (Cond.instanceMethod yX12_pass) ∈ gwL := gwt_6 149 (by decide +kernel) rfl
theorem zw_121 : (Cond.selects RX12 yX12_pass yX12_pass) ∈ gwL := gwp_8 (q := (yX12_pass, 27)) 9 (by decide +kernel) rfl
theorem zw_1529 : (.code yX12_pass cX12_pass 1 none : Cond) ∈ gwL := gwt_6 150 (by decide +kernel) rfl
theorem zw_1555 : (Cond.methodLink RX12 142 yX12_takes) ∈ gwL := gwt_6 176 (by decide +kernel) rfl
theorem zw_1557 : (Cond.instanceMethod yX12_takes) ∈ gwL := gwt_6 178 (by decide +kernel) rfl
theorem zw_124 : (Cond.selects RX12 yX12_takes yX12_takes) ∈ gwL := gwp_8 (q := (yX12_takes, 27)) 12 (by decide +kernel) rfl
theorem zw_1558 : (.code yX12_takes cX12_takes 2 (some .boolean) : Cond) ∈ gwL := gwt_6 179 (by decide +kernel) rfl
theorem zw_1534 : (Cond.methodLink RX12 145 yX12_isOwn) ∈ gwL := gwt_6 155 (by decide +kernel) rfl
theorem zw_1535 : (Cond.static yX12_isOwn) ∈ gwL := gwt_6 156 (by decide +kernel) rfl
theorem zw_1536 : (.code yX12_isOwn cX12_isOwn 2 (some .boolean) : Cond) ∈ gwL := gwt_6 157 (by decide +kernel) rfl
theorem zw_1374 : (Cond.fieldLink RX12 148 RX12 "numberPlace" "I") ∈ gwL := gwt_5 235 (by decide +kernel) rfl
theorem zw_1563 : (Cond.methodLink RX12 151 yX12_isDigit) ∈ gwL := gwt_6 184 (by decide +kernel) rfl
theorem zw_1565 : (Cond.instanceMethod yX12_isDigit) ∈ gwL := gwt_6 186 (by decide +kernel) rfl
theorem zw_126 : (Cond.selects RX12 yX12_isDigit yX12_isDigit) ∈ gwL := gwp_8 (q := (yX12_isDigit, 27)) 14 (by decide +kernel) rfl
theorem zw_1566 : (.code yX12_isDigit cX12_isDigit 2 (some .boolean) : Cond) ∈ gwL := gwt_6 187 (by decide +kernel) rfl
theorem zw_1376 : (Cond.fieldLink RX12 21 RX12 "\x72" "[I") ∈ gwL := gwt_5 237 (by decide +kernel) rfl
theorem zw_1523 : (Cond.methodLink RX12 154 yX12_mostOf) ∈ gwL := gwt_6 144 (by decide +kernel) rfl
theorem zw_1524 : (Cond.static yX12_mostOf) ∈ gwL := gwt_6 145 (by decide +kernel) rfl
theorem zw_1525 : (.code yX12_mostOf cX12_mostOf 1 (some .int) : Cond) ∈ gwL := gwt_6 146 (by decide +kernel) rfl
theorem zw_1530 : (Cond.methodLink RX12 158 yX12_isName) ∈ gwL := gwt_6 151 (by decide +kernel) rfl
theorem zw_1532 : (Cond.instanceMethod yX12_isName) ∈ gwL := gwt_6 153 (by decide +kernel) rfl
theorem zw_122 : (Cond.selects RX12 yX12_isName yX12_isName) ∈ gwL := gwp_8 (q := (yX12_isName, 27)) 10 (by decide +kernel) rfl
theorem zw_1533 : (.code yX12_isName cX12_isName 1 (some .boolean) : Cond) ∈ gwL := gwt_6 154 (by decide +kernel) rfl
theorem zw_1548 : (Cond.methodLink RX12 161 yX12_nameOf) ∈ gwL := gwt_6 169 (by decide +kernel) rfl
theorem zw_1549 : (Cond.static yX12_nameOf) ∈ gwL := gwt_6 170 (by decide +kernel) rfl
theorem zw_1550 : (.code yX12_nameOf cX12_nameOf 4 (some .int) : Cond) ∈ gwL := gwt_6 171 (by decide +kernel) rfl
theorem zw_1378 : (Cond.fieldLink RX12 165 RX12 "namePlace" "I") ∈ gwL := gwt_5 239 (by decide +kernel) rfl
theorem zw_1519 : (Cond.methodLink RX12 168 yX12_newRead) ∈ gwL := gwt_6 140 (by decide +kernel) rfl
theorem zw_1521 : (Cond.instanceMethod yX12_newRead) ∈ gwL := gwt_6 142 (by decide +kernel) rfl
theorem zw_120 : (Cond.selects RX12 yX12_newRead yX12_newRead) ∈ gwL := gwp_8 (q := (yX12_newRead, 27)) 8 (by decide +kernel) rfl
theorem zw_1522 : (.code yX12_newRead cX12_newRead 5 (some .int) : Cond) ∈ gwL := gwt_6 143 (by decide +kernel) rfl
theorem zw_1551 : (Cond.methodLink RX12 171 yX12_asks) ∈ gwL := gwt_6 172 (by decide +kernel) rfl
theorem zw_1553 : (Cond.instanceMethod yX12_asks) ∈ gwL := gwt_6 174 (by decide +kernel) rfl
theorem zw_123 : (Cond.selects RX12 yX12_asks yX12_asks) ∈ gwL := gwp_8 (q := (yX12_asks, 27)) 11 (by decide +kernel) rfl
theorem zw_1554 : (.code yX12_asks cX12_asks 2 none : Cond) ∈ gwL := gwt_6 175 (by decide +kernel) rfl
theorem zw_1559 : (Cond.methodLink RX12 174 yX12_number) ∈ gwL := gwt_6 180 (by decide +kernel) rfl
theorem zw_1561 : (Cond.instanceMethod yX12_number) ∈ gwL := gwt_6 182 (by decide +kernel) rfl
theorem zw_125 : (Cond.selects RX12 yX12_number yX12_number) ∈ gwL := gwp_8 (q := (yX12_number, 27)) 13 (by decide +kernel) rfl
theorem zw_1562 : (.code yX12_number cX12_number 7 (some .int) : Cond) ∈ gwL := gwt_6 183 (by decide +kernel) rfl
theorem zw_1569 : (Cond.methodLink RX12 178 yX12_flag) ∈ gwL := gwt_6 190 (by decide +kernel) rfl
theorem zw_1570 : (Cond.static yX12_flag) ∈ gwL := gwt_6 191 (by decide +kernel) rfl
theorem zw_1571 : (.code yX12_flag cX12_flag 1 (some .int) : Cond) ∈ gwL := gwt_6 192 (by decide +kernel) rfl
theorem zw_1580 : (Cond.methodLink RX12 182 yX12_oneRead) ∈ gwL := gwt_6 201 (by decide +kernel) rfl
theorem zw_1582 : (Cond.instanceMethod yX12_oneRead) ∈ gwL := gwt_6 203 (by decide +kernel) rfl
theorem zw_129 : (Cond.selects RX12 yX12_oneRead yX12_oneRead) ∈ gwL := gwp_9 (q := (yX12_oneRead, 27)) 1 (by decide +kernel) rfl
theorem zw_1583 : (.code yX12_oneRead cX12_oneRead 4 (some .int) : Cond) ∈ gwL := gwt_6 204 (by decide +kernel) rfl
theorem zw_1587 : (Cond.methodLink RX12 190 yX12_of) ∈ gwL := gwt_6 208 (by decide +kernel) rfl
theorem zw_1588 : (Cond.static yX12_of) ∈ gwL := gwt_6 209 (by decide +kernel) rfl
theorem zw_1589 : (.code yX12_of cX12_of 2 (some .int) : Cond) ∈ gwL := gwt_6 210 (by decide +kernel) rfl
theorem zw_1584 : (Cond.methodLink RX12 186 yX12_isOf) ∈ gwL := gwt_6 205 (by decide +kernel) rfl
theorem zw_1585 : (Cond.static yX12_isOf) ∈ gwL := gwt_6 206 (by decide +kernel) rfl
theorem zw_1586 : (.code yX12_isOf cX12_isOf 2 (some .boolean) : Cond) ∈ gwL := gwt_6 207 (by decide +kernel) rfl
theorem zw_1594 : (Cond.methodLink RX12 193 yX12_isTrack) ∈ gwL := gwt_6 215 (by decide +kernel) rfl
theorem zw_1596 : (Cond.instanceMethod yX12_isTrack) ∈ gwL := gwt_6 217 (by decide +kernel) rfl
theorem zw_131 : (Cond.selects RX12 yX12_isTrack yX12_isTrack) ∈ gwL := gwp_9 (q := (yX12_isTrack, 27)) 3 (by decide +kernel) rfl
theorem zw_1597 : (.code yX12_isTrack cX12_isTrack 5 (some .boolean) : Cond) ∈ gwL := gwt_6 218 (by decide +kernel) rfl
theorem zw_1480 : (Cond.methodLink RX12 197 yX12_statementHere) ∈ gwL := gwt_6 101 (by decide +kernel) rfl
theorem zw_1482 : (Cond.instanceMethod yX12_statementHere) ∈ gwL := gwt_6 103 (by decide +kernel) rfl
theorem zw_112 : (Cond.selects RX12 yX12_statementHere yX12_statementHere) ∈ gwL := gwp_8 (q := (yX12_statementHere, 27)) 0 (by decide +kernel) rfl
theorem zw_1483 : (.code yX12_statementHere cX12_statementHere 1 (some .int) : Cond) ∈ gwL := gwt_6 104 (by decide +kernel) rfl
theorem zw_1590 : (Cond.methodLink RX12 209 yX12_trackRead) ∈ gwL := gwt_6 211 (by decide +kernel) rfl
theorem zw_1592 : (Cond.instanceMethod yX12_trackRead) ∈ gwL := gwt_6 213 (by decide +kernel) rfl
theorem zw_130 : (Cond.selects RX12 yX12_trackRead yX12_trackRead) ∈ gwL := gwp_9 (q := (yX12_trackRead, 27)) 2 (by decide +kernel) rfl
theorem zw_1593 : (.code yX12_trackRead cX12_trackRead 6 none : Cond) ∈ gwL := gwt_6 214 (by decide +kernel) rfl
theorem zw_1598 : (Cond.methodLink RX12 212 yX12_needsSign) ∈ gwL := gwt_6 219 (by decide +kernel) rfl
theorem zw_1600 : (Cond.instanceMethod yX12_needsSign) ∈ gwL := gwt_6 221 (by decide +kernel) rfl
theorem zw_132 : (Cond.selects RX12 yX12_needsSign yX12_needsSign) ∈ gwL := gwp_9 (q := (yX12_needsSign, 27)) 4 (by decide +kernel) rfl
theorem zw_1601 : (.code yX12_needsSign cX12_needsSign 2 none : Cond) ∈ gwL := gwt_6 222 (by decide +kernel) rfl
theorem zw_1576 : (Cond.methodLink RX12 206 yX12_memberRead) ∈ gwL := gwt_6 197 (by decide +kernel) rfl
theorem zw_1578 : (Cond.instanceMethod yX12_memberRead) ∈ gwL := gwt_6 199 (by decide +kernel) rfl
theorem zw_128 : (Cond.selects RX12 yX12_memberRead yX12_memberRead) ∈ gwL := gwp_9 (q := (yX12_memberRead, 27)) 0 (by decide +kernel) rfl
theorem zw_1579 : (.code yX12_memberRead cX12_memberRead 6 none : Cond) ∈ gwL := gwt_6 200 (by decide +kernel) rfl
theorem zw_1572 : (Cond.methodLink RX12 203 yX12_namesRead) ∈ gwL := gwt_6 193 (by decide +kernel) rfl
theorem zw_1574 : (Cond.instanceMethod yX12_namesRead) ∈ gwL := gwt_6 195 (by decide +kernel) rfl
theorem zw_127 : (Cond.selects RX12 yX12_namesRead yX12_namesRead) ∈ gwL := gwp_8 (q := (yX12_namesRead, 27)) 15 (by decide +kernel) rfl
theorem zw_1575 : (.code yX12_namesRead cX12_namesRead 3 none : Cond) ∈ gwL := gwt_6 196 (by decide +kernel) rfl
theorem zw_1515 : (Cond.methodLink RX12 200 yX12_groupRead) ∈ gwL := gwt_6 136 (by decide +kernel) rfl
theorem zw_1517 : (Cond.instanceMethod yX12_groupRead) ∈ gwL := gwt_6 138 (by decide +kernel) rfl
theorem zw_119 : (Cond.selects RX12 yX12_groupRead yX12_groupRead) ∈ gwL := gwp_8 (q := (yX12_groupRead, 27)) 7 (by decide +kernel) rfl
theorem zw_1518 : (.code yX12_groupRead cX12_groupRead 6 none : Cond) ∈ gwL := gwt_6 139 (by decide +kernel) rfl
theorem zw_1375 : (Cond.fieldLink RX12 17 RX12 "o" "[I") ∈ gwL := gwt_5 236 (by decide +kernel) rfl
theorem zw_1618 : (Cond.methodLink RX12 253 yX12_groups) ∈ gwL := gwt_6 239 (by decide +kernel) rfl
theorem zw_1620 : (Cond.instanceMethod yX12_groups) ∈ gwL := gwt_7 1 (by decide +kernel) rfl
theorem zw_137 : (Cond.selects RX12 yX12_groups yX12_groups) ∈ gwL := gwp_9 (q := (yX12_groups, 27)) 9 (by decide +kernel) rfl
theorem zw_1621 : (.code yX12_groups cX12_groups 1 (some .int) : Cond) ∈ gwL := gwt_7 2 (by decide +kernel) rfl
theorem zw_1614 : (Cond.methodLink RX12 256 yX12_gates) ∈ gwL := gwt_6 235 (by decide +kernel) rfl
theorem zw_1616 : (Cond.instanceMethod yX12_gates) ∈ gwL := gwt_6 237 (by decide +kernel) rfl
theorem zw_136 : (Cond.selects RX12 yX12_gates yX12_gates) ∈ gwL := gwp_9 (q := (yX12_gates, 27)) 8 (by decide +kernel) rfl
theorem zw_1617 : (.code yX12_gates cX12_gates 1 (some .int) : Cond) ∈ gwL := gwt_6 238 (by decide +kernel) rfl
theorem zw_1626 : (Cond.methodLink RX12 259 yX12_isGroup) ∈ gwL := gwt_7 7 (by decide +kernel) rfl
theorem zw_1628 : (Cond.instanceMethod yX12_isGroup) ∈ gwL := gwt_7 9 (by decide +kernel) rfl
theorem zw_139 : (Cond.selects RX12 yX12_isGroup yX12_isGroup) ∈ gwL := gwp_9 (q := (yX12_isGroup, 27)) 11 (by decide +kernel) rfl
theorem zw_1629 : (.code yX12_isGroup cX12_isGroup 2 (some .boolean) : Cond) ∈ gwL := gwt_7 10 (by decide +kernel) rfl
theorem zw_1630 : (Cond.methodLink RX12 262 yX12_isGate) ∈ gwL := gwt_7 11 (by decide +kernel) rfl
theorem zw_1632 : (Cond.instanceMethod yX12_isGate) ∈ gwL := gwt_7 13 (by decide +kernel) rfl
theorem zw_140 : (Cond.selects RX12 yX12_isGate yX12_isGate) ∈ gwL := gwp_9 (q := (yX12_isGate, 27)) 12 (by decide +kernel) rfl
theorem zw_1633 : (.code yX12_isGate cX12_isGate 2 (some .boolean) : Cond) ∈ gwL := gwt_7 14 (by decide +kernel) rfl
theorem zw_1380 : (Cond.fieldLink RX12 27 RX12 "w" "[I") ∈ gwL := gwt_6 1 (by decide +kernel) rfl
theorem zw_1638 : (Cond.methodLink RX12 265 yX12_greater) ∈ gwL := gwt_7 19 (by decide +kernel) rfl
theorem zw_1639 : (Cond.static yX12_greater) ∈ gwL := gwt_7 20 (by decide +kernel) rfl
theorem zw_1640 : (.code yX12_greater cX12_greater 2 (some .int) : Cond) ∈ gwL := gwt_7 21 (by decide +kernel) rfl
theorem zw_1649 : (Cond.methodLink RX12 274 yX12_lesser) ∈ gwL := gwt_7 30 (by decide +kernel) rfl
theorem zw_1650 : (Cond.static yX12_lesser) ∈ gwL := gwt_7 31 (by decide +kernel) rfl
theorem zw_1651 : (.code yX12_lesser cX12_lesser 2 (some .int) : Cond) ∈ gwL := gwt_7 32 (by decide +kernel) rfl
theorem zw_1384 : (Cond.fieldLink RX12 280 RX12 "moves" "I") ∈ gwL := gwt_6 5 (by decide +kernel) rfl
theorem zw_1645 : (Cond.methodLink RX12 283 yX12_logs) ∈ gwL := gwt_7 26 (by decide +kernel) rfl
theorem zw_1647 : (Cond.instanceMethod yX12_logs) ∈ gwL := gwt_7 28 (by decide +kernel) rfl
theorem zw_143 : (Cond.selects RX12 yX12_logs yX12_logs) ∈ gwL := gwp_9 (q := (yX12_logs, 27)) 15 (by decide +kernel) rfl
theorem zw_1648 : (.code yX12_logs cX12_logs 6 none : Cond) ∈ gwL := gwt_7 29 (by decide +kernel) rfl
theorem zw_1634 : (Cond.methodLink RX12 268 yX12_wordOf) ∈ gwL := gwt_7 15 (by decide +kernel) rfl
theorem zw_1636 : (Cond.instanceMethod yX12_wordOf) ∈ gwL := gwt_7 17 (by decide +kernel) rfl
theorem zw_141 : (Cond.selects RX12 yX12_wordOf yX12_wordOf) ∈ gwL := gwp_9 (q := (yX12_wordOf, 27)) 13 (by decide +kernel) rfl
theorem zw_1637 : (.code yX12_wordOf cX12_wordOf 5 (some .int) : Cond) ∈ gwL := gwt_7 18 (by decide +kernel) rfl
theorem zw_1660 : (Cond.methodLink RX12 271 yX12_skewOf) ∈ gwL := gwt_7 41 (by decide +kernel) rfl
theorem zw_1662 : (Cond.instanceMethod yX12_skewOf) ∈ gwL := gwt_7 43 (by decide +kernel) rfl
theorem zw_146 : (Cond.selects RX12 yX12_skewOf yX12_skewOf) ∈ gwL := gwp_10 (q := (yX12_skewOf, 27)) 2 (by decide +kernel) rfl
theorem zw_1663 : (.code yX12_skewOf cX12_skewOf 3 (some .int) : Cond) ∈ gwL := gwt_7 44 (by decide +kernel) rfl
theorem zw_1656 : (Cond.methodLink RX12 277 yX12_patienceOf) ∈ gwL := gwt_7 37 (by decide +kernel) rfl
theorem zw_1658 : (Cond.instanceMethod yX12_patienceOf) ∈ gwL := gwt_7 39 (by decide +kernel) rfl
theorem zw_145 : (Cond.selects RX12 yX12_patienceOf yX12_patienceOf) ∈ gwL := gwp_10 (q := (yX12_patienceOf, 27)) 1 (by decide +kernel) rfl
theorem zw_1659 : (.code yX12_patienceOf cX12_patienceOf 3 (some .int) : Cond) ∈ gwL := gwt_7 40 (by decide +kernel) rfl
theorem zw_1622 : (Cond.methodLink RX12 287 yX12_isMember) ∈ gwL := gwt_7 3 (by decide +kernel) rfl
theorem zw_1624 : (Cond.instanceMethod yX12_isMember) ∈ gwL := gwt_7 5 (by decide +kernel) rfl
theorem zw_138 : (Cond.selects RX12 yX12_isMember yX12_isMember) ∈ gwL := gwp_9 (q := (yX12_isMember, 27)) 10 (by decide +kernel) rfl
theorem zw_1625 : (.code yX12_isMember cX12_isMember 3 (some .boolean) : Cond) ∈ gwL := gwt_7 6 (by decide +kernel) rfl
theorem zw_1652 : (Cond.methodLink RX12 293 yX12_toWait) ∈ gwL := gwt_7 33 (by decide +kernel) rfl
theorem zw_1654 : (Cond.instanceMethod yX12_toWait) ∈ gwL := gwt_7 35 (by decide +kernel) rfl
theorem zw_144 : (Cond.selects RX12 yX12_toWait yX12_toWait) ∈ gwL := gwp_10 (q := (yX12_toWait, 27)) 0 (by decide +kernel) rfl
theorem zw_1655 : (.code yX12_toWait cX12_toWait 3 none : Cond) ∈ gwL := gwt_7 36 (by decide +kernel) rfl
theorem zw_1641 : (Cond.methodLink RX12 290 yX12_toHold) ∈ gwL := gwt_7 22 (by decide +kernel) rfl
theorem zw_1643 : (Cond.instanceMethod yX12_toHold) ∈ gwL := gwt_7 24 (by decide +kernel) rfl
theorem zw_142 : (Cond.selects RX12 yX12_toHold yX12_toHold) ∈ gwL := gwp_9 (q := (yX12_toHold, 27)) 14 (by decide +kernel) rfl
theorem zw_1644 : (.code yX12_toHold cX12_toHold 3 none : Cond) ∈ gwL := gwt_7 25 (by decide +kernel) rfl
theorem zw_1464 : (Cond.methodLink RX12 215 yX12_begins) ∈ gwL := gwt_6 85 (by decide +kernel) rfl
theorem zw_1466 : (Cond.instanceMethod yX12_begins) ∈ gwL := gwt_6 87 (by decide +kernel) rfl
theorem zw_108 : (Cond.selects RX12 yX12_begins yX12_begins) ∈ gwL := gwp_7 (q := (yX12_begins, 27)) 12 (by decide +kernel) rfl
theorem zw_1467 : (.code yX12_begins cX12_begins 1 none : Cond) ∈ gwL := gwt_6 88 (by decide +kernel) rfl
theorem zw_1606 : (Cond.methodLink RX12 221 yX12_isRead) ∈ gwL := gwt_6 227 (by decide +kernel) rfl
theorem zw_1608 : (Cond.instanceMethod yX12_isRead) ∈ gwL := gwt_6 229 (by decide +kernel) rfl
theorem zw_134 : (Cond.selects RX12 yX12_isRead yX12_isRead) ∈ gwL := gwp_9 (q := (yX12_isRead, 27)) 6 (by decide +kernel) rfl
theorem zw_1609 : (.code yX12_isRead cX12_isRead 1 (some .boolean) : Cond) ∈ gwL := gwt_6 230 (by decide +kernel) rfl
theorem zw_1377 : (Cond.fieldLink RX12 224 RX12 "isNet" "Z") ∈ gwL := gwt_5 238 (by decide +kernel) rfl
theorem zw_1382 : (Cond.fieldLink RX12 228 RX12 "acts" "I") ∈ gwL := gwt_6 3 (by decide +kernel) rfl
theorem zw_1383 : (Cond.fieldLink RX12 33 RX12 "isKept" "[Z") ∈ gwL := gwt_6 4 (by decide +kernel) rfl
theorem zw_1610 : (Cond.methodLink RX12 231 yX12_starts) ∈ gwL := gwt_6 231 (by decide +kernel) rfl
theorem zw_1612 : (Cond.instanceMethod yX12_starts) ∈ gwL := gwt_6 233 (by decide +kernel) rfl
theorem zw_135 : (Cond.selects RX12 yX12_starts yX12_starts) ∈ gwL := gwp_9 (q := (yX12_starts, 27)) 7 (by decide +kernel) rfl
theorem zw_1613 : (.code yX12_starts cX12_starts 3 none : Cond) ∈ gwL := gwt_6 234 (by decide +kernel) rfl
theorem zw_1507 : (Cond.methodLink RX12 218 yX12_statement) ∈ gwL := gwt_6 128 (by decide +kernel) rfl
theorem zw_1509 : (Cond.instanceMethod yX12_statement) ∈ gwL := gwt_6 130 (by decide +kernel) rfl
theorem zw_117 : (Cond.selects RX12 yX12_statement yX12_statement) ∈ gwL := gwp_8 (q := (yX12_statement, 27)) 5 (by decide +kernel) rfl
theorem zw_1510 : (.code yX12_statement cX12_statement 2 none : Cond) ∈ gwL := gwt_6 131 (by decide +kernel) rfl
theorem zw_1379 : (Cond.fieldLink RX12 24 RX12 "e" "[I") ∈ gwL := gwt_6 0 (by decide +kernel) rfl
theorem zw_1676 : (Cond.methodLink RX12 234 yX12_laysEvent) ∈ gwL := gwt_7 57 (by decide +kernel) rfl
theorem zw_1678 : (Cond.instanceMethod yX12_laysEvent) ∈ gwL := gwt_7 59 (by decide +kernel) rfl
theorem zw_148 : (Cond.selects RX12 yX12_laysEvent yX12_laysEvent) ∈ gwL := gwp_10 (q := (yX12_laysEvent, 27)) 4 (by decide +kernel) rfl
theorem zw_1679 : (.code yX12_laysEvent cX12_laysEvent 6 none : Cond) ∈ gwL := gwt_7 60 (by decide +kernel) rfl
theorem zw_1684 : (Cond.methodLink RX12 241 yX12_wordRead) ∈ gwL := gwt_7 65 (by decide +kernel) rfl
theorem zw_1686 : (Cond.instanceMethod yX12_wordRead) ∈ gwL := gwt_7 67 (by decide +kernel) rfl
theorem zw_150 : (Cond.selects RX12 yX12_wordRead yX12_wordRead) ∈ gwL := gwp_10 (q := (yX12_wordRead, 27)) 6 (by decide +kernel) rfl
theorem zw_1687 : (.code yX12_wordRead cX12_wordRead 5 none : Cond) ∈ gwL := gwt_7 68 (by decide +kernel) rfl
theorem zw_1680 : (Cond.methodLink RX12 238 yX12_splitRead) ∈ gwL := gwt_7 61 (by decide +kernel) rfl
theorem zw_1682 : (Cond.instanceMethod yX12_splitRead) ∈ gwL := gwt_7 63 (by decide +kernel) rfl
theorem zw_149 : (Cond.selects RX12 yX12_splitRead yX12_splitRead) ∈ gwL := gwp_10 (q := (yX12_splitRead, 27)) 5 (by decide +kernel) rfl
theorem zw_1683 : (.code yX12_splitRead cX12_splitRead 5 none : Cond) ∈ gwL := gwt_7 64 (by decide +kernel) rfl
theorem zw_1381 : (Cond.fieldLink RX12 30 RX12 "banks" "[I") ∈ gwL := gwt_6 2 (by decide +kernel) rfl
theorem zw_1692 : (Cond.methodLink RX12 250 yX12_putsTo) ∈ gwL := gwt_7 73 (by decide +kernel) rfl
theorem zw_1694 : (Cond.instanceMethod yX12_putsTo) ∈ gwL := gwt_7 75 (by decide +kernel) rfl
theorem zw_152 : (Cond.selects RX12 yX12_putsTo yX12_putsTo) ∈ gwL := gwp_10 (q := (yX12_putsTo, 27)) 8 (by decide +kernel) rfl
theorem zw_1695 : (.code yX12_putsTo cX12_putsTo 3 none : Cond) ∈ gwL := gwt_7 76 (by decide +kernel) rfl
theorem zw_1688 : (Cond.methodLink RX12 247 yX12_keepsAct) ∈ gwL := gwt_7 69 (by decide +kernel) rfl
theorem zw_1690 : (Cond.instanceMethod yX12_keepsAct) ∈ gwL := gwt_7 71 (by decide +kernel) rfl
theorem zw_151 : (Cond.selects RX12 yX12_keepsAct yX12_keepsAct) ∈ gwL := gwp_10 (q := (yX12_keepsAct, 27)) 7 (by decide +kernel) rfl
theorem zw_1691 : (.code yX12_keepsAct cX12_keepsAct 2 none : Cond) ∈ gwL := gwt_7 72 (by decide +kernel) rfl
theorem zw_1672 : (Cond.methodLink RX12 244 yX12_eventRead) ∈ gwL := gwt_7 53 (by decide +kernel) rfl
theorem zw_1674 : (Cond.instanceMethod yX12_eventRead) ∈ gwL := gwt_7 55 (by decide +kernel) rfl
theorem zw_147 : (Cond.selects RX12 yX12_eventRead yX12_eventRead) ∈ gwL := gwp_10 (q := (yX12_eventRead, 27)) 3 (by decide +kernel) rfl
theorem zw_1675 : (.code yX12_eventRead cX12_eventRead 3 none : Cond) ∈ gwL := gwt_7 56 (by decide +kernel) rfl
theorem zw_1768 : (Cond.methodLink RX12 296 yX12_areTogether) ∈ gwL := gwt_7 149 (by decide +kernel) rfl
theorem zw_1770 : (Cond.instanceMethod yX12_areTogether) ∈ gwL := gwt_7 151 (by decide +kernel) rfl
theorem zw_162 : (Cond.selects RX12 yX12_areTogether yX12_areTogether) ∈ gwL := gwp_11 (q := (yX12_areTogether, 27)) 2 (by decide +kernel) rfl
theorem zw_1771 : (.code yX12_areTogether cX12_areTogether 3 (some .boolean) : Cond) ∈ gwL := gwt_7 152 (by decide +kernel) rfl
theorem zw_1760 : (Cond.methodLink RX12 299 yX12_doesHold) ∈ gwL := gwt_7 141 (by decide +kernel) rfl
theorem zw_1762 : (Cond.instanceMethod yX12_doesHold) ∈ gwL := gwt_7 143 (by decide +kernel) rfl
theorem zw_160 : (Cond.selects RX12 yX12_doesHold yX12_doesHold) ∈ gwL := gwp_11 (q := (yX12_doesHold, 27)) 0 (by decide +kernel) rfl
theorem zw_1763 : (.code yX12_doesHold cX12_doesHold 3 (some .boolean) : Cond) ∈ gwL := gwt_7 144 (by decide +kernel) rfl
theorem zw_1764 : (Cond.methodLink RX12 302 yX12_farewell) ∈ gwL := gwt_7 145 (by decide +kernel) rfl
theorem zw_1766 : (Cond.instanceMethod yX12_farewell) ∈ gwL := gwt_7 147 (by decide +kernel) rfl
theorem zw_161 : (Cond.selects RX12 yX12_farewell yX12_farewell) ∈ gwL := gwp_11 (q := (yX12_farewell, 27)) 1 (by decide +kernel) rfl
theorem zw_1767 : (.code yX12_farewell cX12_farewell 5 none : Cond) ∈ gwL := gwt_7 148 (by decide +kernel) rfl
theorem zw_1748 : (Cond.methodLink RX12 305 yX12_isUp) ∈ gwL := gwt_7 129 (by decide +kernel) rfl
theorem zw_1750 : (Cond.instanceMethod yX12_isUp) ∈ gwL := gwt_7 131 (by decide +kernel) rfl
theorem zw_157 : (Cond.selects RX12 yX12_isUp yX12_isUp) ∈ gwL := gwp_10 (q := (yX12_isUp, 27)) 13 (by decide +kernel) rfl
theorem zw_1751 : (.code yX12_isUp cX12_isUp 2 (some .boolean) : Cond) ∈ gwL := gwt_7 132 (by decide +kernel) rfl
theorem zw_1752 : (Cond.methodLink RX12 308 yX12_comesUp) ∈ gwL := gwt_7 133 (by decide +kernel) rfl
theorem zw_1754 : (Cond.instanceMethod yX12_comesUp) ∈ gwL := gwt_7 135 (by decide +kernel) rfl
theorem zw_158 : (Cond.selects RX12 yX12_comesUp yX12_comesUp) ∈ gwL := gwp_10 (q := (yX12_comesUp, 27)) 14 (by decide +kernel) rfl
theorem zw_1755 : (.code yX12_comesUp cX12_comesUp 3 none : Cond) ∈ gwL := gwt_7 136 (by decide +kernel) rfl
theorem zw_1756 : (Cond.methodLink RX12 311 yX12_goesDown) ∈ gwL := gwt_7 137 (by decide +kernel) rfl
theorem zw_1758 : (Cond.instanceMethod yX12_goesDown) ∈ gwL := gwt_7 139 (by decide +kernel) rfl
theorem zw_159 : (Cond.selects RX12 yX12_goesDown yX12_goesDown) ∈ gwL := gwp_10 (q := (yX12_goesDown, 27)) 15 (by decide +kernel) rfl
theorem zw_1759 : (.code yX12_goesDown cX12_goesDown 7 (some .int) : Cond) ∈ gwL := gwt_7 140 (by decide +kernel) rfl
theorem zw_1784 : (Cond.constantLong RX12 315 (1103515245)) ∈ gwL := gwt_7 165 (by decide +kernel) rfl
theorem zw_1785 : (Cond.constantLong RX12 317 (12345)) ∈ gwL := gwt_7 166 (by decide +kernel) rfl
theorem zw_1786 : (Cond.constantLong RX12 319 (2147483648)) ∈ gwL := gwt_7 167 (by decide +kernel) rfl
theorem zw_1787 : (Cond.constantLong RX12 321 (64)) ∈ gwL := gwt_7 168 (by decide +kernel) rfl
theorem zw_1788 : (Cond.constantLong RX12 323 (100)) ∈ gwL := gwt_7 169 (by decide +kernel) rfl
theorem zw_1385 : (Cond.fieldLink RX12 37 RX12 "sent" "[I") ∈ gwL := gwt_6 6 (by decide +kernel) rfl
theorem zw_1793 : (Cond.methodLink RX12 325 yX12_isStronger) ∈ gwL := gwt_7 174 (by decide +kernel) rfl
theorem zw_1794 : (Cond.static yX12_isStronger) ∈ gwL := gwt_7 175 (by decide +kernel) rfl
theorem zw_1795 : (.code yX12_isStronger cX12_isStronger 4 (some .boolean) : Cond) ∈ gwL := gwt_7 176 (by decide +kernel) rfl
theorem zw_1780 : (Cond.methodLink RX12 332 yX12_isLost) ∈ gwL := gwt_7 161 (by decide +kernel) rfl
theorem zw_1782 : (Cond.instanceMethod yX12_isLost) ∈ gwL := gwt_7 163 (by decide +kernel) rfl
theorem zw_165 : (Cond.selects RX12 yX12_isLost yX12_isLost) ∈ gwL := gwp_11 (q := (yX12_isLost, 27)) 5 (by decide +kernel) rfl
theorem zw_1783 : (.code yX12_isLost cX12_isLost 4 (some .boolean) : Cond) ∈ gwL := gwt_7 164 (by decide +kernel) rfl
theorem zw_1789 : (Cond.methodLink RX12 335 yX12_reads) ∈ gwL := gwt_7 170 (by decide +kernel) rfl
theorem zw_1791 : (Cond.instanceMethod yX12_reads) ∈ gwL := gwt_7 172 (by decide +kernel) rfl
theorem zw_166 : (Cond.selects RX12 yX12_reads yX12_reads) ∈ gwL := gwp_11 (q := (yX12_reads, 27)) 6 (by decide +kernel) rfl
theorem zw_1792 : (.code yX12_reads cX12_reads 6 none : Cond) ∈ gwL := gwt_7 173 (by decide +kernel) rfl
theorem zw_1776 : (Cond.methodLink RX12 329 yX12_sends) ∈ gwL := gwt_7 157 (by decide +kernel) rfl
theorem zw_1778 : (Cond.instanceMethod yX12_sends) ∈ gwL := gwt_7 159 (by decide +kernel) rfl
theorem zw_164 : (Cond.selects RX12 yX12_sends yX12_sends) ∈ gwL := gwp_11 (q := (yX12_sends, 27)) 4 (by decide +kernel) rfl
theorem zw_1779 : (.code yX12_sends cX12_sends 4 none : Cond) ∈ gwL := gwt_7 160 (by decide +kernel) rfl
theorem zw_1711 : (Cond.methodLink RX12 338 yX12_bitsOf) ∈ gwL := gwt_7 92 (by decide +kernel) rfl
theorem zw_1713 : (Cond.instanceMethod yX12_bitsOf) ∈ gwL := gwt_7 94 (by decide +kernel) rfl
theorem zw_154 : (Cond.selects RX12 yX12_bitsOf yX12_bitsOf) ∈ gwL := gwp_10 (q := (yX12_bitsOf, 27)) 10 (by decide +kernel) rfl
theorem zw_1714 : (.code yX12_bitsOf cX12_bitsOf 5 (some .int) : Cond) ∈ gwL := gwt_7 95 (by decide +kernel) rfl
theorem zw_1704 : (Cond.methodLink RX12 341 yX12_bits) ∈ gwL := gwt_7 85 (by decide +kernel) rfl
theorem zw_1705 : (Cond.static yX12_bits) ∈ gwL := gwt_7 86 (by decide +kernel) rfl
theorem zw_1706 : (.code yX12_bits cX12_bits 3 (some .int) : Cond) ∈ gwL := gwt_7 87 (by decide +kernel) rfl
theorem zw_1796 : (Cond.methodLink RX12 350 yX12_isOrphan) ∈ gwL := gwt_7 177 (by decide +kernel) rfl
theorem zw_1798 : (Cond.instanceMethod yX12_isOrphan) ∈ gwL := gwt_7 179 (by decide +kernel) rfl
theorem zw_167 : (Cond.selects RX12 yX12_isOrphan yX12_isOrphan) ∈ gwL := gwp_11 (q := (yX12_isOrphan, 27)) 7 (by decide +kernel) rfl
theorem zw_1799 : (.code yX12_isOrphan cX12_isOrphan 2 (some .boolean) : Cond) ∈ gwL := gwt_7 180 (by decide +kernel) rfl
theorem zw_1800 : (Cond.methodLink RX12 353 yX12_isDouble) ∈ gwL := gwt_7 181 (by decide +kernel) rfl
theorem zw_1802 : (Cond.instanceMethod yX12_isDouble) ∈ gwL := gwt_7 183 (by decide +kernel) rfl
theorem zw_168 : (Cond.selects RX12 yX12_isDouble yX12_isDouble) ∈ gwL := gwp_11 (q := (yX12_isDouble, 27)) 8 (by decide +kernel) rfl
theorem zw_1803 : (.code yX12_isDouble cX12_isDouble 3 (some .boolean) : Cond) ∈ gwL := gwt_7 184 (by decide +kernel) rfl
theorem zw_1772 : (Cond.methodLink RX12 347 yX12_groupGoes) ∈ gwL := gwt_7 153 (by decide +kernel) rfl
theorem zw_1774 : (Cond.instanceMethod yX12_groupGoes) ∈ gwL := gwt_7 155 (by decide +kernel) rfl
theorem zw_163 : (Cond.selects RX12 yX12_groupGoes yX12_groupGoes) ∈ gwL := gwp_11 (q := (yX12_groupGoes, 27)) 3 (by decide +kernel) rfl
theorem zw_1775 : (.code yX12_groupGoes cX12_groupGoes 4 none : Cond) ∈ gwL := gwt_7 156 (by decide +kernel) rfl
theorem zw_1744 : (Cond.methodLink RX12 344 yX12_happens) ∈ gwL := gwt_7 125 (by decide +kernel) rfl
theorem zw_1746 : (Cond.instanceMethod yX12_happens) ∈ gwL := gwt_7 127 (by decide +kernel) rfl
theorem zw_156 : (Cond.selects RX12 yX12_happens yX12_happens) ∈ gwL := gwp_10 (q := (yX12_happens, 27)) 12 (by decide +kernel) rfl
theorem zw_1747 : (.code yX12_happens cX12_happens 4 none : Cond) ∈ gwL := gwt_7 128 (by decide +kernel) rfl
theorem zw_1700 : (Cond.methodLink RX12 356 yX12_memberMany) ∈ gwL := gwt_7 81 (by decide +kernel) rfl
theorem zw_1702 : (Cond.instanceMethod yX12_memberMany) ∈ gwL := gwt_7 83 (by decide +kernel) rfl
theorem zw_153 : (Cond.selects RX12 yX12_memberMany yX12_memberMany) ∈ gwL := gwp_10 (q := (yX12_memberMany, 27)) 9 (by decide +kernel) rfl
theorem zw_1703 : (.code yX12_memberMany cX12_memberMany 3 (some .int) : Cond) ∈ gwL := gwt_7 84 (by decide +kernel) rfl
theorem zw_1723 : (Cond.constantLong RX12 359 (2)) ∈ gwL := gwt_7 104 (by decide +kernel) rfl
theorem zw_1724 : (Cond.constantLong RX12 361 (5)) ∈ gwL := gwt_7 105 (by decide +kernel) rfl
theorem zw_1729 : (Cond.constantLong RX12 363 (3)) ∈ gwL := gwt_7 110 (by decide +kernel) rfl
theorem zw_1734 : (Cond.constantLong RX12 365 (4)) ∈ gwL := gwt_7 115 (by decide +kernel) rfl
theorem zw_1739 : (Cond.constantLong RX12 367 (500)) ∈ gwL := gwt_7 120 (by decide +kernel) rfl
theorem zw_1740 : (Cond.methodLink RX12 369 yX12_tickGoes) ∈ gwL := gwt_7 121 (by decide +kernel) rfl
theorem zw_1742 : (Cond.instanceMethod yX12_tickGoes) ∈ gwL := gwt_7 123 (by decide +kernel) rfl
theorem zw_155 : (Cond.selects RX12 yX12_tickGoes yX12_tickGoes) ∈ gwL := gwp_10 (q := (yX12_tickGoes, 27)) 11 (by decide +kernel) rfl
theorem zw_1743 : (.code yX12_tickGoes cX12_tickGoes 2 none : Cond) ∈ gwL := gwt_7 124 (by decide +kernel) rfl
theorem zw_1824 : (Cond.constantLong RX12 372 (255)) ∈ gwL := gwt_7 205 (by decide +kernel) rfl
theorem zw_1829 : (Cond.constantLong RX12 374 (99)) ∈ gwL := gwt_7 210 (by decide +kernel) rfl
theorem zw_1838 : (Cond.methodLink RX12 376 yX12_partOf) ∈ gwL := gwt_7 219 (by decide +kernel) rfl
theorem zw_1840 : (Cond.instanceMethod yX12_partOf) ∈ gwL := gwt_7 221 (by decide +kernel) rfl
theorem zw_170 : (Cond.selects RX12 yX12_partOf yX12_partOf) ∈ gwL := gwp_11 (q := (yX12_partOf, 27)) 10 (by decide +kernel) rfl
theorem zw_1841 : (.code yX12_partOf cX12_partOf 3 (some .int) : Cond) ∈ gwL := gwt_7 222 (by decide +kernel) rfl
theorem zw_1842 : (Cond.methodLink RX12 379 yX12_strongestOf) ∈ gwL := gwt_7 223 (by decide +kernel) rfl
theorem zw_1844 : (Cond.instanceMethod yX12_strongestOf) ∈ gwL := gwt_7 225 (by decide +kernel) rfl
theorem zw_171 : (Cond.selects RX12 yX12_strongestOf yX12_strongestOf) ∈ gwL := gwp_11 (q := (yX12_strongestOf, 27)) 11 (by decide +kernel) rfl
theorem zw_1845 : (.code yX12_strongestOf cX12_strongestOf 5 (some .int) : Cond) ∈ gwL := gwt_7 226 (by decide +kernel) rfl
theorem zw_1834 : (Cond.methodLink RX12 382 yX12_holderOf) ∈ gwL := gwt_7 215 (by decide +kernel) rfl
theorem zw_1836 : (Cond.instanceMethod yX12_holderOf) ∈ gwL := gwt_7 217 (by decide +kernel) rfl
theorem zw_169 : (Cond.selects RX12 yX12_holderOf yX12_holderOf) ∈ gwL := gwp_11 (q := (yX12_holderOf, 27)) 9 (by decide +kernel) rfl
theorem zw_1837 : (.code yX12_holderOf cX12_holderOf 3 (some .int) : Cond) ∈ gwL := gwt_7 218 (by decide +kernel) rfl
theorem zw_1386 : (Cond.fieldLink RX12 40 RX12 "slotOf" "[I") ∈ gwL := gwt_6 7 (by decide +kernel) rfl
theorem zw_1387 : (Cond.fieldLink RX12 43 RX12 "had" "[I") ∈ gwL := gwt_6 8 (by decide +kernel) rfl
theorem zw_1862 : (Cond.methodLink RX12 385 yX12_laysSlots) ∈ gwL := gwt_8 3 (by decide +kernel) rfl
theorem zw_1864 : (Cond.instanceMethod yX12_laysSlots) ∈ gwL := gwt_8 5 (by decide +kernel) rfl
theorem zw_172 : (Cond.selects RX12 yX12_laysSlots yX12_laysSlots) ∈ gwL := gwp_11 (q := (yX12_laysSlots, 27)) 12 (by decide +kernel) rfl
theorem zw_1865 : (.code yX12_laysSlots cX12_laysSlots 7 none : Cond) ∈ gwL := gwt_8 6 (by decide +kernel) rfl
theorem zw_1878 : (Cond.constantLong RX12 388 (9999)) ∈ gwL := gwt_8 19 (by decide +kernel) rfl
theorem zw_1899 : (Cond.methodLink RX12 390 yX12_takesFrom) ∈ gwL := gwt_8 40 (by decide +kernel) rfl
theorem zw_1901 : (Cond.instanceMethod yX12_takesFrom) ∈ gwL := gwt_8 42 (by decide +kernel) rfl
theorem zw_177 : (Cond.selects RX12 yX12_takesFrom yX12_takesFrom) ∈ gwL := gwp_12 (q := (yX12_takesFrom, 27)) 1 (by decide +kernel) rfl
theorem zw_1902 : (.code yX12_takesFrom cX12_takesFrom 3 none : Cond) ∈ gwL := gwt_8 43 (by decide +kernel) rfl
theorem zw_1883 : (Cond.methodLink RX12 393 yX12_canGo) ∈ gwL := gwt_8 24 (by decide +kernel) rfl
theorem zw_1885 : (Cond.instanceMethod yX12_canGo) ∈ gwL := gwt_8 26 (by decide +kernel) rfl
theorem zw_173 : (Cond.selects RX12 yX12_canGo yX12_canGo) ∈ gwL := gwp_11 (q := (yX12_canGo, 27)) 13 (by decide +kernel) rfl
theorem zw_1886 : (.code yX12_canGo cX12_canGo 2 (some .boolean) : Cond) ∈ gwL := gwt_8 27 (by decide +kernel) rfl
theorem zw_1887 : (Cond.methodLink RX12 396 yX12_toPaper) ∈ gwL := gwt_8 28 (by decide +kernel) rfl
theorem zw_1889 : (Cond.instanceMethod yX12_toPaper) ∈ gwL := gwt_8 30 (by decide +kernel) rfl
theorem zw_174 : (Cond.selects RX12 yX12_toPaper yX12_toPaper) ∈ gwL := gwp_11 (q := (yX12_toPaper, 27)) 14 (by decide +kernel) rfl
theorem zw_1890 : (.code yX12_toPaper cX12_toPaper 1 none : Cond) ∈ gwL := gwt_8 31 (by decide +kernel) rfl
theorem zw_1891 : (Cond.methodLink RX12 399 yX12_goes) ∈ gwL := gwt_8 32 (by decide +kernel) rfl
theorem zw_1893 : (Cond.instanceMethod yX12_goes) ∈ gwL := gwt_8 34 (by decide +kernel) rfl
theorem zw_175 : (Cond.selects RX12 yX12_goes yX12_goes) ∈ gwL := gwp_11 (q := (yX12_goes, 27)) 15 (by decide +kernel) rfl
theorem zw_1894 : (.code yX12_goes cX12_goes 3 none : Cond) ∈ gwL := gwt_8 35 (by decide +kernel) rfl
theorem zw_1895 : (Cond.methodLink RX12 402 yX12_fromPaper) ∈ gwL := gwt_8 36 (by decide +kernel) rfl
theorem zw_1897 : (Cond.instanceMethod yX12_fromPaper) ∈ gwL := gwt_8 38 (by decide +kernel) rfl
theorem zw_176 : (Cond.selects RX12 yX12_fromPaper yX12_fromPaper) ∈ gwL := gwp_12 (q := (yX12_fromPaper, 27)) 0 (by decide +kernel) rfl
theorem zw_1898 : (.code yX12_fromPaper cX12_fromPaper 2 (some .int) : Cond) ∈ gwL := gwt_8 39 (by decide +kernel) rfl
theorem zw_1388 : (Cond.fieldLink RX12 405 RX12 "hei\x72" "I") ∈ gwL := gwt_6 9 (by decide +kernel) rfl
theorem zw_1907 : (Cond.methodLink RX12 408 yX12_failsIn) ∈ gwL := gwt_8 48 (by decide +kernel) rfl
theorem zw_1909 : (Cond.instanceMethod yX12_failsIn) ∈ gwL := gwt_8 50 (by decide +kernel) rfl
theorem zw_178 : (Cond.selects RX12 yX12_failsIn yX12_failsIn) ∈ gwL := gwp_12 (q := (yX12_failsIn, 27)) 2 (by decide +kernel) rfl
theorem zw_1910 : (.code yX12_failsIn cX12_failsIn 4 (some .int) : Cond) ∈ gwL := gwt_8 51 (by decide +kernel) rfl
